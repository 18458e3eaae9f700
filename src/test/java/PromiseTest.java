/** For each promise ordinary calls, the edges that the document names, and wrong inputs; answers worked out by hand. */
public final class PromiseTest {
  private static final int BEYOND = -1000000001;
  private static final int NONE = -1000000002;
  private static final int STATE = -1000000003;
  private static final int FULL = -1000000004;
  private static final int KIND = -1000000005;
  private static final int MIN = Integer.MIN_VALUE;
  private static final int MAX = Integer.MAX_VALUE;

  private static int wrong = 0;

  private static void due(String what, int got, int want) {
    if (got != want) {
      wrong++;
      System.out.println(what + " answered " + got + ", due is " + want);
    }
  }

  public static void main(String[] args) {
    newObject();
    round();
    height();
    tide();
    pond();
    gate();
    gatesInAnHour();
    water();
    channel();
    channelsInAnHour();
    widen();
    about();
    mill();
    as();
    stone();
    stonesInAnHour();
    rightsOfRank();
    on();
    sack();
    row();
    told();
    tollAndLate();
    severalSacksInAnHour();
    fulling();
    flour();
    hours();
    running();
    best();
    bestHoursOfSeveral();
    ahead();
    all();
    tell();
    check();
    count();
    found();
    System.out.println(wrong == 0 ? "all answers are as due" : wrong + " answers are not as due");
    if (wrong != 0) {
      System.exit(1);
    }
  }

  /** A sea that always stands at v. */
  private static TideMill flat(int v) {
    TideMill x = new TideMill();
    x.round(1);
    x.height(0, v);
    return x;
  }

  /** A POND of AREA 10 and BANK 250 with a shut GATE, full of WATER as told, over a sea at 0. */
  private static TideMill shut(int water) {
    TideMill x = flat(0);
    x.pond(10, 250, 0);
    x.gate(0, 0);
    x.water(0, water);
    return x;
  }

  private static void newObject() {
    TideMill x = new TideMill();
    for (int what = 0; what <= 5; what++) {
      due("1 count(" + what + ")", x.count(what), 0);
      due("1 all(" + what + ")", x.all(what), 0);
    }
    due("1 count(6)", x.count(6), 12);
    for (int k = 1; k <= 5; k++) {
      due("1 found(" + k + ")", x.found(k), 0);
    }
    for (int c = 0; c <= 9; c++) {
      due("1 flour(" + c + ")", x.flour(c), 0);
    }
    due("1 running()", x.running(), 0);
    due("1 hours(1)", x.hours(1), 0);
    due("1 count(3)", x.count(3), 1);
    TideMill y = new TideMill();
    y.pond(1, 1, 1);
    due("1 objects share nothing", x.count(0), 0);
  }

  private static void round() {
    TideMill x = new TideMill();
    due("2 round(24)", x.round(24), 12);
    due("2 round(25)", x.round(25), BEYOND);
    due("2 round(0)", x.round(0), BEYOND);
    due("2 round(-1)", x.round(-1), BEYOND);
    due("2 round(MIN)", x.round(MIN), BEYOND);
    due("2 round(MAX)", x.round(MAX), BEYOND);
    due("2 count(6)", x.count(6), 24);
    due("2 tide(12) of 24", x.tide(12), 40);
    due("2 round(1)", x.round(1), 24);
    due("2 tide(12) of 1", x.tide(12), 40);
    due("2 tide(6) of 1", x.tide(6), 40);
    due("2 round(7)", x.round(7), 1);
    due("2 tide(13) of 7", x.tide(13), 100);
  }

  private static void height() {
    TideMill x = new TideMill();
    int[] first = {40, 50, 60, 70, 80, 90, 100, 90, 80, 70, 60, 50, 40, 30, 20, 10, 0, 0, 0, 0, 0, 0, 0, 0};
    for (int place = 0; place < 24; place++) {
      due("3 first height of " + place, x.height(place, place + 1), first[place]);
      due("3 second height of " + place, x.height(place, 0), place + 1);
    }
    due("3 height(0, 200)", x.height(0, 200), 0);
    due("3 height(0, 201)", x.height(0, 201), BEYOND);
    due("3 height(0, -1)", x.height(0, -1), BEYOND);
    due("3 height(-1, 0)", x.height(-1, 0), BEYOND);
    due("3 height(24, 0)", x.height(24, 0), BEYOND);
    due("3 height(MAX, 0)", x.height(MAX, 0), BEYOND);
    due("3 height(MIN, 0)", x.height(MIN, 0), BEYOND);
    due("3 height(0, 0)", x.height(0, 0), 200);
    due("3 outside the round", x.height(23, 7), 0);
    due("3 tide(23)", x.tide(23), 0);
    x.round(24);
    due("3 tide(23) of 24", x.tide(23), 7);
  }

  private static void tide() {
    TideMill x = new TideMill();
    due("4 tide(0)", x.tide(0), 40);
    due("4 tide(11)", x.tide(11), 50);
    due("4 tide(12)", x.tide(12), 40);
    due("4 tide(18)", x.tide(18), 100);
    due("4 tide(MAX)", x.tide(MAX), 90); // 2147483647 modulo 12 is 7
    due("4 tide(-1)", x.tide(-1), BEYOND);
    due("4 tide(MIN)", x.tide(MIN), BEYOND);
    x.round(24);
    due("4 tide(16)", x.tide(16), 0);
    due("4 tide(23)", x.tide(23), 0);
    due("4 tide(24)", x.tide(24), 40);
  }

  private static void pond() {
    TideMill x = new TideMill();
    due("5 area 0", x.pond(0, 1, 0), BEYOND);
    due("5 area 101", x.pond(101, 1, 0), BEYOND);
    due("5 bank 0", x.pond(1, 0, 0), BEYOND);
    due("5 bank 251", x.pond(1, 251, 0), BEYOND);
    due("5 width -1", x.pond(1, 1, -1), BEYOND);
    due("5 width 201", x.pond(1, 1, 201), BEYOND);
    due("5 count(0)", x.count(0), 0);
    due("5 the least", x.pond(1, 1, 0), 0);
    due("5 the greatest", x.pond(100, 250, 200), 1);
    due("5 gate", x.about(0, 2), 1);
    due("5 water", x.about(1, 1), 0);
    due("5 third", x.pond(1, 1, 0), 2);
    due("5 fourth", x.pond(1, 1, 0), 3);
    due("5 full", x.pond(1, 1, 0), FULL);
    due("5 beyond before full", x.pond(0, 1, 0), BEYOND);
    due("5 count(0) of 4", x.count(0), 4);
  }

  private static void gate() {
    TideMill x = new TideMill();
    due("6 no pond", x.gate(0, 0), BEYOND);
    x.pond(1, 1, 0);
    due("6 was flap", x.gate(0, 2), 1);
    due("6 was open", x.gate(0, 0), 2);
    due("6 how 3", x.gate(0, 3), BEYOND);
    due("6 how -1", x.gate(0, -1), BEYOND);
    due("6 pond -1", x.gate(-1, 0), BEYOND);
    due("6 pond 1", x.gate(1, 0), BEYOND);
    due("6 was shut", x.gate(0, 0), 0);
  }

  private static void gatesInAnHour() {
    TideMill x = flat(100);
    x.pond(10, 250, 3); // FLAP, sea above: WIDTH times difference is the lesser
    x.pond(10, 250, 200); // FLAP: what fills it to the TIDE is the lesser
    x.pond(10, 250, 3); // SHUT
    x.pond(10, 250, 3); // FLAP, sea below
    x.gate(2, 0);
    x.water(0, 9);
    x.water(1, 999);
    x.water(3, 2000);
    x.hours(1);
    due("6 flap by width", x.about(0, 1), 309); // LEVEL 0, so 3 times 100
    due("6 flap to the tide", x.about(1, 1), 1000);
    due("6 shut", x.about(2, 1), 0);
    due("6 flap holds", x.about(3, 1), 2000);
    due("6 came in", x.all(1), 301);
    due("6 went out", x.all(2), 0);
    x.gate(3, 2);
    x.hours(1);
    due("6 open by width", x.about(3, 1), 1700); // LEVEL 200, so 3 times 100 goes out
    due("6 went out now", x.all(2), 300);
    x.gate(1, 2);
    x.water(1, 1009); // its LEVEL is the TIDE: nothing goes out
    x.hours(1);
    due("6 open at the tide's level", x.about(1, 1), 1009);
    x.water(1, 1019);
    x.hours(1);
    due("6 open down to the tide", x.about(1, 1), 1000); // 200 times 1, but 19 above
    x.gate(2, 2);
    x.hours(1);
    due("6 open comes in", x.about(2, 1), 300);
  }

  private static void water() {
    TideMill x = new TideMill();
    due("7 no pond", x.water(0, 0), BEYOND);
    x.pond(3, 7, 0);
    due("7 to the brim", x.water(0, 21), 0);
    due("7 above it", x.water(0, 22), BEYOND);
    due("7 below 0", x.water(0, -1), BEYOND);
    due("7 MAX", x.water(0, MAX), BEYOND);
    due("7 pond 1", x.water(1, 0), BEYOND);
    due("7 pond -1", x.water(-1, 0), BEYOND);
    due("7 down", x.water(0, 4), 21);
    due("7 put in", x.all(5), 4);
    due("7 was", x.water(0, 0), 4);
    due("7 put in none", x.all(5), 0);
    x.gate(0, 1);
    x.pond(10, 250, 200);
    x.hours(1); // 400 come in by the FLAP
    due("7 what it held", x.water(1, 100), 400);
    due("7 took more than it put in", x.all(5), -300);
  }

  private static void channel() {
    TideMill x = new TideMill();
    x.pond(1, 1, 0);
    x.pond(1, 1, 0);
    due("8 no such a", x.channel(2, 0, 0), BEYOND);
    due("8 no such b", x.channel(0, 2, 0), BEYOND);
    due("8 a -1", x.channel(-1, 0, 0), BEYOND);
    due("8 b -1", x.channel(0, -1, 0), BEYOND);
    due("8 same", x.channel(1, 1, 0), BEYOND);
    due("8 width -1", x.channel(0, 1, -1), BEYOND);
    due("8 width 201", x.channel(0, 1, 201), BEYOND);
    due("8 first", x.channel(0, 1, 0), 0);
    due("8 second", x.channel(1, 0, 200), 1);
    due("8 the same once more", x.channel(0, 1, 5), 2);
    due("8 fourth", x.channel(0, 1, 5), 3);
    due("8 full", x.channel(0, 1, 5), FULL);
    due("8 beyond before full", x.channel(0, 0, 5), BEYOND);
    due("8 count(1)", x.count(1), 4);
  }

  private static void channelsInAnHour() {
    TideMill x = flat(0);
    x.pond(10, 250, 0);
    x.pond(30, 250, 0);
    x.pond(10, 250, 0);
    x.channel(0, 1, 200);
    x.channel(2, 1, 3);
    x.water(0, 1000);
    x.hours(1);
    // (1000 * 30) / 40 = 750 goes to pond 1, whose LEVEL is 25; then 3 * 25 to pond 2.
    due("8 even", x.about(0, 1), 250);
    due("8 even, the other", x.about(1, 1), 675);
    due("8 by width, from b to a", x.about(2, 1), 75);
    due("8 nothing came in", x.all(1), 0);
    due("8 nothing went out", x.all(2), 0);
    TideMill y = flat(0);
    y.pond(10, 250, 0);
    y.pond(10, 250, 0);
    y.channel(0, 1, 200);
    y.water(0, 59);
    y.water(1, 50); // the LEVELS are alike
    y.hours(1);
    due("8 alike", y.about(0, 1), 59);
    y.water(0, 63);
    y.hours(1);
    due("8 cut", y.about(0, 1), 57); // (630 - 500) by 20 is 6
    due("8 cut, the other", y.about(1, 1), 56);
    y.widen(0, 3);
    y.water(0, 500);
    y.water(1, 300);
    y.hours(1);
    due("8 by the difference, from a", y.about(0, 1), 440);
    y.water(1, 640);
    y.hours(1);
    due("8 by the difference, from b", y.about(0, 1), 500);
  }

  private static void widen() {
    TideMill x = flat(0);
    x.pond(10, 250, 0);
    x.pond(10, 250, 0);
    due("9 no channel", x.widen(0, 0), BEYOND);
    x.channel(0, 1, 7);
    due("9 widen(0, 200)", x.widen(0, 200), 7);
    due("9 201", x.widen(0, 201), BEYOND);
    due("9 -1", x.widen(0, -1), BEYOND);
    due("9 channel 1", x.widen(1, 0), BEYOND);
    due("9 channel -1", x.widen(-1, 0), BEYOND);
    due("9 widen(0, 2)", x.widen(0, 2), 200);
    x.water(0, 1000);
    x.hours(1);
    due("9 as wide as told", x.about(1, 1), 200);
    due("9 widen(0, 0)", x.widen(0, 0), 2);
    x.hours(1);
    due("9 shut up", x.about(1, 1), 200);
  }

  private static void about() {
    TideMill x = new TideMill();
    due("10 no pond", x.about(0, 0), BEYOND);
    x.pond(7, 30, 11);
    x.pond(8, 31, 12);
    x.water(0, 27);
    x.gate(0, 2);
    x.mill(0, 1, 0, 0, 0);
    x.mill(1, 1, 0, 0, 0);
    x.mill(2, 0, 0, 0, 0);
    int[] want = {3, 27, 2, 7, 30, 1};
    for (int what = 0; what <= 5; what++) {
      due("10 about(0, " + what + ")", x.about(0, what), want[what]);
    }
    due("10 about(1, 5)", x.about(1, 5), 2);
    due("10 what 6", x.about(0, 6), BEYOND);
    due("10 what -1", x.about(0, -1), BEYOND);
    due("10 pond 2", x.about(2, 0), BEYOND);
    due("10 pond -1", x.about(-1, 0), BEYOND);
  }

  private static void mill() {
    TideMill x = new TideMill();
    due("11 no pond", x.mill(0, 0, 0, 0, 0), BEYOND);
    x.pond(1, 1, 0);
    due("11 kind 3", x.mill(3, 0, 0, 0, 0), BEYOND);
    due("11 kind -1", x.mill(-1, 0, 0, 0, 0), BEYOND);
    due("11 pond -1", x.mill(0, -1, 0, 0, 0), BEYOND);
    due("11 rank 10", x.mill(0, 0, 10, 0, 0), BEYOND);
    due("11 rank -1", x.mill(0, 0, -1, 0, 0), BEYOND);
    due("11 keeps 251", x.mill(0, 0, 0, 251, 0), BEYOND);
    due("11 keeps -1", x.mill(0, 0, 0, -1, 0), BEYOND);
    due("11 customer of a mill", x.mill(0, 0, 0, 0, 1), BEYOND);
    due("11 customer of fulling", x.mill(2, 0, 0, 0, 1), BEYOND);
    due("11 customer 10", x.mill(1, 0, 0, 0, 10), BEYOND);
    due("11 customer -1", x.mill(1, 0, 0, 0, -1), BEYOND);
    due("11 first", x.mill(0, 0, 9, 250, 0), 0);
    due("11 bakers", x.mill(1, 0, 0, 0, 9), 1);
    due("11 fulling", x.mill(2, 0, 0, 0, 0), 2);
    due("11 bakers of 0", x.mill(1, 0, 0, 0, 0), 3);
    due("11 full", x.mill(0, 0, 0, 0, 0), FULL);
    due("11 beyond before full", x.mill(0, 0, 0, 0, 1), BEYOND);
    due("11 count(2)", x.count(2), 4);
  }

  private static void as() {
    TideMill x = new TideMill();
    due("12 no mill", x.as(0, 0), BEYOND);
    x.pond(1, 1, 0);
    x.mill(0, 0, 4, 0, 0);
    x.mill(1, 0, 5, 0, 2);
    x.mill(2, 0, 6, 0, 0);
    int[][] want = {{4, KIND, KIND}, {5, 5, KIND}, {6, KIND, 6}};
    for (int m = 0; m < 3; m++) {
      for (int kind = 0; kind < 3; kind++) {
        due("12 as(" + m + ", " + kind + ")", x.as(m, kind), want[m][kind]);
      }
    }
    due("12 kind 3", x.as(0, 3), BEYOND);
    due("12 kind -1", x.as(0, -1), BEYOND);
    due("12 mill 3", x.as(3, 0), BEYOND);
    due("12 mill -1", x.as(-1, 0), BEYOND);
    due("12 found(5)", x.found(5), 4);
  }

  private static void stone() {
    TideMill x = new TideMill();
    due("13 no mill", x.stone(0, 1, 1, 1, 1), BEYOND);
    x.pond(1, 1, 0);
    x.mill(0, 0, 0, 0, 0);
    due("13 least 0", x.stone(0, 0, 1, 1, 1), BEYOND);
    due("13 least 201", x.stone(0, 201, 1, 1, 1), BEYOND);
    due("13 draw 0", x.stone(0, 1, 0, 1, 1), BEYOND);
    due("13 draw 1001", x.stone(0, 1, 1001, 1, 1), BEYOND);
    due("13 rate 0", x.stone(0, 1, 1, 0, 1), BEYOND);
    due("13 rate 21", x.stone(0, 1, 1, 21, 1), BEYOND);
    due("13 most 0", x.stone(0, 1, 1, 1, 0), BEYOND);
    due("13 most 1001", x.stone(0, 1, 1, 1, 1001), BEYOND);
    due("13 mill -1", x.stone(-1, 1, 1, 1, 1), BEYOND);
    due("13 the least", x.stone(0, 1, 1, 1, 1), 0);
    due("13 the greatest", x.stone(0, 200, 1000, 20, 1000), 1);
    due("13 on at first", x.on(0, 0, 1), 1);
    due("13 third", x.stone(0, 1, 1, 1, 1), 2);
    due("13 full", x.stone(0, 1, 1, 1, 1), FULL);
    due("13 beyond before full", x.stone(0, 0, 1, 1, 1), BEYOND);
    due("13 told(0, 8)", x.told(0, 8), 3);
  }

  private static void stonesInAnHour() {
    TideMill x = shut(1000);
    x.mill(0, 0, 0, 250, 0); // what it KEEPS itself does not hold it
    x.stone(0, 100, 1, 2, 1000); // head 100: 200
    x.stone(0, 100, 1, 1, 1000); // head 99 behind the first one: not
    x.stone(0, 99, 999, 3, 50); // head 99: 297, MOST is 50; all the WATER there is
    due("13 hours(1)", x.hours(1), 250);
    due("13 drawn", x.all(4), 1000);
    due("13 water", x.about(0, 1), 0);
    TideMill y = shut(500);
    y.mill(0, 0, 0, 0, 0);
    y.stone(0, 1, 501, 1, 1000); // too little WATER
    due("13 too little water", y.hours(1), 0);
    y.stone(0, 1, 500, 1, 1000);
    due("13 just enough", y.hours(1), 50);
    TideMill z = shut(500);
    z.height(0, 49);
    z.mill(0, 0, 0, 0, 0);
    z.stone(0, 1, 1, 20, 1000);
    due("13 head 1", z.hours(1), 20);
    z.water(0, 490);
    due("13 head 0", z.hours(1), 0);
  }

  private static void rightsOfRank() {
    TideMill x = shut(1000);
    x.pond(10, 250, 0);
    x.mill(0, 0, 5, 0, 0);
    x.mill(0, 0, 4, 90, 0);
    x.mill(0, 0, 3, 80, 0);
    x.mill(0, 1, 0, 250, 0); // at another POND: it has no right here
    x.stone(0, 1, 50, 1, 1000);
    x.stone(1, 1, 150, 2, 1000);
    x.stone(2, 1, 20, 3, 1000);
    // RANK 3 first: 300, 980 are left; RANK 4 leaves 830, above 800: 2 * 98; RANK 5 may not, 780 is below 900.
    due("11 by rank", x.hours(1), 496);
    due("11 rank 5 waits", x.told(0, 1), 0);
    due("11 rank 4", x.told(1, 1), 196);
    due("11 rank 3", x.told(2, 1), 300);
    x.water(0, 960);
    x.on(1, 0, 0);
    // 940 are left behind RANK 3 (3 * 96); RANK 5 would leave 890.
    due("11 one too few", x.hours(1), 288);
    x.water(0, 970);
    // 950 are left (3 * 97); RANK 5 leaves just 900: head 95. The KEEPS of a MILL whose STONE isn't ON hold too.
    due("11 just 900", x.hours(1), 386);
    TideMill y = shut(1000);
    y.mill(0, 0, 2, 250, 0);
    y.mill(0, 0, 2, 250, 0);
    y.stone(1, 1, 100, 1, 1000);
    y.stone(0, 1, 100, 1, 1000);
    due("11 the same rank, by numbers", y.hours(1), 190);
    due("11 first", y.told(0, 1), 100);
    due("11 second", y.told(1, 1), 90);
  }

  private static void on() {
    TideMill x = shut(1000);
    due("14 no mill", x.on(0, 0, 0), BEYOND);
    x.mill(0, 0, 0, 0, 0);
    due("14 no stone", x.on(0, 0, 0), BEYOND);
    x.stone(0, 1, 1, 1, 10);
    due("14 off", x.on(0, 0, 0), 1);
    due("14 hours(1) off", x.hours(1), 0);
    due("14 is 2", x.on(0, 0, 2), BEYOND);
    due("14 is -1", x.on(0, 0, -1), BEYOND);
    due("14 stone 1", x.on(0, 1, 1), BEYOND);
    due("14 stone -1", x.on(0, -1, 1), BEYOND);
    due("14 mill 1", x.on(1, 0, 1), BEYOND);
    due("14 mill -1", x.on(-1, 0, 1), BEYOND);
    due("14 on", x.on(0, 0, 1), 0);
    due("14 hours(1) on", x.hours(1), 10);
    due("14 was on", x.on(0, 0, 1), 1);
  }

  private static void sack() {
    TideMill x = new TideMill();
    due("15 no mill", x.sack(0, 0, 1, 0), BEYOND);
    x.pond(1, 1, 0);
    x.mill(0, 0, 0, 0, 0);
    x.mill(1, 0, 0, 0, 5);
    x.mill(2, 0, 0, 0, 0);
    due("15 mill -1", x.sack(-1, 0, 1, 0), BEYOND);
    due("15 mill 3", x.sack(3, 0, 1, 0), BEYOND);
    due("15 customer -1", x.sack(0, -1, 1, 0), BEYOND);
    due("15 customer 10", x.sack(0, 10, 1, 0), BEYOND);
    due("15 amount 0", x.sack(0, 0, 0, 0), BEYOND);
    due("15 amount 2001", x.sack(0, 0, 2001, 0), BEYOND);
    due("15 due -1", x.sack(0, 0, 1, -1), BEYOND);
    x.hours(5);
    due("15 due 4 in hour 5", x.sack(0, 0, 1, 4), BEYOND);
    due("15 due 5 in hour 5", x.sack(0, 9, 2000, 5), 1);
    due("15 due MAX", x.sack(0, 0, 1, MAX), 2);
    due("15 fulling", x.sack(2, 0, 1, 5), KIND);
    due("15 fulling, beyond first", x.sack(2, 0, 0, 5), BEYOND);
    due("15 bakers, another", x.sack(1, 4, 1, 5), STATE);
    due("15 bakers, beyond first", x.sack(1, 4, 1, 4), BEYOND);
    for (int i = 1; i <= 12; i++) {
      due("15 bakers, their own " + i, x.sack(1, 5, i, 5), i);
    }
    due("15 full", x.sack(1, 5, 1, 5), FULL);
    due("15 state before full", x.sack(1, 4, 1, 5), STATE);
    due("15 count(4)", x.count(4), 14);
    due("15 found(3)", x.found(3), 2);
  }

  private static void row() {
    TideMill x = shut(1000);
    due("16 no mill", x.row(0, 0, 0), BEYOND);
    x.mill(0, 0, 0, 0, 0);
    x.mill(2, 0, 0, 0, 0);
    x.stone(0, 1, 1, 1, 30);
    due("16 no sack", x.row(0, 0, 0), NONE);
    x.sack(0, 3, 20, 40);
    x.sack(0, 4, 50, 60);
    int[][] want = {{3, 20, 20, 40}, {4, 50, 50, 60}};
    for (int i = 0; i < 2; i++) {
      for (int what = 0; what < 4; what++) {
        due("16 row(0, " + i + ", " + what + ")", x.row(0, i, what), want[i][what]);
      }
    }
    due("16 i 2", x.row(0, 2, 0), NONE);
    due("16 i -1", x.row(0, -1, 0), NONE);
    due("16 i MAX", x.row(0, MAX, 0), NONE);
    due("16 what 4", x.row(0, 0, 4), BEYOND);
    due("16 what -1", x.row(0, 0, -1), BEYOND);
    due("16 beyond before none", x.row(0, 5, 4), BEYOND);
    due("16 mill 2", x.row(2, 0, 0), BEYOND);
    due("16 mill -1", x.row(-1, 0, 0), BEYOND);
    due("16 fulling", x.row(1, 0, 0), NONE);
    x.hours(1);
    due("16 the second is first", x.row(0, 0, 0), 4);
    due("16 its amount", x.row(0, 0, 1), 50);
    due("16 it still wants", x.row(0, 0, 2), 40);
    due("16 none behind it", x.row(0, 1, 2), NONE);
  }

  private static void told() {
    TideMill x = shut(1009);
    due("17 no mill", x.told(0, 0), BEYOND);
    x.mill(0, 0, 8, 0, 0);
    x.stone(0, 1, 9, 1, 70);
    x.sack(0, 1, 33, 0);
    x.sack(0, 2, 90, 0);
    x.hours(2);
    // 70 and 70: the first sack done in HOUR 0 (TOLL 2), the second in HOUR 1 (TOLL 5), 17 idle.
    int[] want = {99, 140, 7, 2, 1, 17, 0, 0, 1, 8};
    for (int what = 0; what < want.length; what++) {
      due("17 told(0, " + what + ")", x.told(0, what), want[what]);
    }
    x.sack(0, 2, 2000, 9);
    due("17 one waits", x.told(0, 7), 1);
    x.height(0, 200);
    due("17 head below 0", x.told(0, 0), -101);
    due("17 what 10", x.told(0, 10), BEYOND);
    due("17 what -1", x.told(0, -1), BEYOND);
    due("17 mill 1", x.told(1, 0), BEYOND);
    due("17 mill -1", x.told(-1, 0), BEYOND);
  }

  private static void tollAndLate() {
    TideMill x = shut(2000);
    x.mill(0, 0, 0, 0, 0);
    x.mill(1, 0, 0, 0, 6);
    x.stone(0, 1, 1, 1, 16);
    x.stone(1, 1, 1, 1, 16);
    x.sack(0, 6, 32, 1); // done in HOUR 1: not LATE
    x.sack(0, 6, 16, 1); // done in HOUR 2: LATE
    x.sack(1, 6, 48, 1); // done in HOUR 2: LATE, no TOLL
    x.hours(3);
    due("17 late", x.told(0, 4), 1);
    due("17 toll", x.told(0, 2), 3);
    due("17 done", x.told(0, 3), 2);
    due("17 late of bakers", x.told(1, 4), 1);
    due("17 toll of bakers", x.told(1, 2), 0);
    due("17 idle", x.told(0, 5), 0);
    due("18 from both", x.flour(6), 30 + 15 + 48);
    x.hours(1);
    due("17 idle now", x.told(0, 5), 16);
    due("17 idle of bakers", x.told(1, 5), 16);
  }

  private static void severalSacksInAnHour() {
    TideMill x = shut(2000);
    x.mill(0, 0, 0, 0, 0);
    x.stone(0, 1, 1, 20, 1000);
    x.stone(0, 1, 1, 20, 1000);
    for (int i = 0; i < 12; i++) {
      x.sack(0, i % 10, 100, i < 6 ? 0 : 5);
    }
    due("16 hours(1)", x.hours(1), 2000);
    due("16 all done", x.told(0, 3), 12);
    due("16 idle", x.told(0, 5), 800);
    due("16 tolls", x.told(0, 2), 72);
    due("16 flour(1)", x.flour(1), 188);
    due("16 flour(2)", x.flour(2), 94);
    due("16 late", x.told(0, 4), 0);
    due("16 sacks come again", x.sack(0, 7, 5, 1), 1);
    due("16 as told", x.row(0, 0, 2), 5);
  }

  private static void fulling() {
    TideMill x = shut(1000);
    x.mill(2, 0, 0, 0, 0);
    x.stone(0, 1, 10, 1, 1000);
    x.stone(0, 1, 10, 1, 1000);
    x.stone(0, 200, 10, 1, 1000);
    due("17 fulling tells nothing", x.hours(3), 0);
    due("17 cloth", x.told(0, 6), 6);
    due("17 ground", x.told(0, 1), 0);
    due("17 idle", x.told(0, 5), 0);
    due("17 drawn", x.all(4), 60);
  }

  private static void flour() {
    TideMill x = shut(1000);
    due("18 -1", x.flour(-1), BEYOND);
    due("18 10", x.flour(10), BEYOND);
    x.mill(0, 0, 0, 0, 0);
    x.stone(0, 1, 1, 1, 40);
    x.sack(0, 9, 47, 9);
    x.sack(0, 0, 15, 9);
    x.hours(1);
    due("18 not done", x.flour(9), 0);
    x.hours(1);
    due("18 less its toll", x.flour(9), 45);
    due("18 no toll under 16", x.flour(0), 15);
  }

  private static void hours() {
    TideMill x = new TideMill();
    due("19 0", x.hours(0), BEYOND);
    due("19 -1", x.hours(-1), BEYOND);
    due("19 101", x.hours(101), BEYOND);
    due("19 MAX", x.hours(MAX), BEYOND);
    for (int i = 0; i < 99; i++) {
      x.hours(100);
    }
    due("19 99", x.hours(99), 0);
    due("19 two more", x.hours(2), FULL);
    due("19 one more", x.hours(1), 0);
    due("19 count(3)", x.count(3), 10000);
    due("19 none more", x.hours(1), FULL);
    due("19 beyond before full", x.hours(101), BEYOND);
    x.pond(1, 250, 200);
    due("19 ahead goes on", x.ahead(0, 2), 90); // HOURS 10000 and 10001 are the places 4 and 5
    due("19 count(3) once more", x.count(3), 10000);
    TideMill y = shut(1000);
    y.pond(1, 5, 200);
    y.height(0, 10);
    y.hours(3);
    due("19 spills above the bank", y.about(1, 1), 5);
    due("19 spilt", y.all(3), 5 + 5 + 5);
  }

  private static void running() {
    TideMill x = flat(0);
    x.pond(10, 250, 200);
    x.pond(10, 250, 200);
    x.mill(0, 0, 1, 0, 0);
    x.mill(2, 1, 0, 0, 0);
    x.mill(0, 0, 2, 0, 0);
    x.mill(0, 0, 0, 0, 0);
    for (int m = 0; m < 4; m++) {
      x.stone(m, 1, 40, 1, 5);
      x.stone(m, 1, 40, 1, 5);
      x.stone(m, 1, 40, 1, 5);
    }
    x.water(0, 290);
    x.water(1, 80);
    x.on(3, 1, 0);
    // MILL 3 takes two, MILL 0 three, MILL 2 two of 290; MILL 1 has two of 80.
    due("20 bits", x.running(), 7 | 3 << 3 | 3 << 6 | 5 << 9);
    due("20 nothing changes", x.about(0, 1), 290);
    due("20 nothing changes here", x.all(4), 0);
    due("20 not the hour", x.count(3), 0);
    x.height(0, 30);
    // The sea comes in first: POND 1 to 300, head 0; POND 0 to 300, head 0.
    due("20 gates first", x.running(), 0);
    x.gate(0, 0);
    x.water(0, 320);
    due("20 head below the second", x.running(), 1 << 9);
  }

  private static void best() {
    TideMill x = shut(1000);
    due("21 no mill", x.best(0, 1, 0), BEYOND);
    x.mill(0, 0, 0, 0, 0);
    due("21 no stones, bits", x.best(0, 8, 0), 0);
    due("21 no stones, ground", x.best(0, 8, 1), 0);
    due("21 n 0", x.best(0, 0, 0), BEYOND);
    due("21 n 9", x.best(0, 9, 0), BEYOND);
    due("21 what 2", x.best(0, 1, 2), BEYOND);
    due("21 what -1", x.best(0, 1, -1), BEYOND);
    due("21 mill 1", x.best(1, 1, 0), BEYOND);
    due("21 mill -1", x.best(-1, 1, 0), BEYOND);
    x.stone(0, 1, 400, 1, 1000);
    // Two of the HOURS: 100 and 60; the least such set is the first two.
    due("21 bits", x.best(0, 8, 0), 3);
    due("21 ground", x.best(0, 8, 1), 160);
    due("21 one hour", x.best(0, 1, 0), 1);
    x.round(4);
    x.height(0, 90);
    x.height(1, 0);
    x.height(2, 50);
    x.height(3, 0);
    // At HOUR 0 the head is 10; better is HOUR 1 (100) and HOUR 3 (60).
    due("21 waits for the ebb", x.best(0, 4, 0), 10);
    due("21 what it grinds", x.best(0, 4, 1), 160);
    due("21 nothing changes", x.about(0, 1), 1000);
    due("21 nothing is told", x.told(0, 1), 0);
    due("21 on still", x.on(0, 0, 0), 1);
    due("21 none is on", x.best(0, 4, 0), 0);
    due("21 so none is ground", x.best(0, 4, 1), 0);
  }

  private static void bestHoursOfSeveral() {
    // The fewest HOURS: a greedy first HOUR would grind as much, in more HOURS.
    TideMill x = shut(300);
    x.round(3);
    x.height(0, 20);
    x.height(1, 20);
    x.height(2, 10);
    x.mill(2, 0, 0, 0, 0);
    x.stone(0, 5, 100, 1, 1000);
    // HOUR 0: 10; HOUR 2 alone: 20; HOURS 0 and 2: 10 + 10. The least set of one HOUR with 20.
    due("21 the fewest hours", x.best(0, 3, 0), 4);
    due("21 of fulling too", x.best(0, 3, 1), 20);
    // As much in as few HOURS: {1, 2} as bits is less than {0, 3}, each of which grinds 4.
    TideMill w = flat(4);
    w.round(5);
    int[] ebb = {4, 3, 2, 1, 1};
    for (int i = 0; i < 5; i++) {
      w.height(i, ebb[i]);
    }
    w.pond(1, 7, 0);
    w.gate(0, 0);
    w.water(0, 6);
    w.mill(0, 0, 1, 2, 0);
    w.stone(0, 3, 1, 2, 2);
    w.stone(0, 1, 2, 1, 1);
    due("21 less as a number", w.best(0, 5, 0), 6);
    due("21 as much", w.best(0, 5, 1), 4);
    // Its own STONES alone are reckoned, and those of others go on.
    TideMill y = shut(1000);
    y.mill(0, 0, 0, 50, 0);
    y.mill(0, 0, 1, 0, 0);
    y.stone(0, 1, 100, 1, 1000);
    y.stone(1, 1, 100, 2, 1000);
    // MILL 0 takes 100 an HOUR down to 0; MILL 1 may leave 500 or more.
    // HOURS 0, 1: 900 -> 800 (2 * 90), 700 -> 600 (2 * 70); then 500, and it must wait.
    due("21 rights hold", y.best(1, 4, 1), 320);
    due("21 rights hold, bits", y.best(1, 4, 0), 3);
    // MILL 0 grinds 100, then 80 or 90 as MILL 1 goes on: with MILL 1 as it is 100 + 80 + 60 + 50.
    due("21 the other goes on", y.best(0, 4, 1), 290);
    due("21 the other goes on, bits", y.best(0, 4, 0), 15);
  }

  private static void ahead() {
    TideMill x = new TideMill();
    due("22 no pond", x.ahead(0, 0), BEYOND);
    x.pond(10, 250, 10);
    x.mill(0, 0, 0, 0, 0);
    x.stone(0, 20, 100, 1, 50);
    x.sack(0, 0, 50, 99);
    due("22 0", x.ahead(0, 0), 0);
    due("22 1", x.ahead(0, 1), 40);
    due("22 7", x.ahead(0, 7), 100);
    due("22 10", x.ahead(0, 10), 80); // drawn at HOURS 8 (head 20) and 9 (head 20)
    due("22 -1", x.ahead(0, -1), BEYOND);
    due("22 49", x.ahead(0, 49), BEYOND);
    due("22 pond 1", x.ahead(1, 0), BEYOND);
    due("22 pond -1", x.ahead(-1, 0), BEYOND);
    due("22 nothing changes", x.about(0, 1), 0);
    due("22 no water counted", x.all(1), 0);
    due("22 no hour", x.count(3), 0);
    due("22 no sack", x.told(0, 7), 1);
    int then = x.ahead(0, 48);
    x.hours(48);
    due("22 48", x.about(0, 0), then);
  }

  private static void all() {
    TideMill x = flat(100);
    x.pond(10, 50, 200);
    x.pond(10, 250, 200);
    x.gate(1, 2);
    x.water(1, 2400);
    x.water(0, 100);
    x.mill(0, 1, 0, 0, 0);
    x.stone(0, 1, 60, 1, 10);
    x.hours(1);
    // POND 0: 900 come in, 500 spill. POND 1: 1400 go out, head 0.
    int[] want = {1500, 900, 1400, 500, 0, 2500};
    for (int what = 0; what < want.length; what++) {
      due("23 all(" + what + ")", x.all(what), want[what]);
    }
    x.gate(1, 1);
    x.gate(0, 0);
    x.water(1, 1100);
    x.hours(2);
    // 1100 - 60 = 1040 (head 10), then head 4: 980.
    due("23 drawn", x.all(4), 120);
    due("23 in ponds", x.all(0), 500 + 980);
    due("23 put in", x.all(5), 2600);
    due("23 what 6", x.all(6), BEYOND);
    due("23 what -1", x.all(-1), BEYOND);
  }

  private static void tell() {
    TideMill x = new TideMill();
    for (int i = 1; i <= 24; i++) {
      due("24 tell " + i, x.tell(i % 2 == 0 ? MIN : MAX), i);
    }
    due("24 full", x.tell(0), FULL);
    due("24 count(5)", x.count(5), 24);
    x.check(0);
    due("24 anew", x.tell(0), 1);
  }

  private static void check() {
    TideMill x = new TideMill();
    x.tell(5);
    due("25 no pond", x.check(0), BEYOND);
    due("25 they are gone", x.count(5), 0);
    x.pond(10, 250, 200);
    due("25 none wait", x.check(0), 0);
    for (int i = 0; i < 24; i++) {
      x.tell(i < 7 ? 40 + 10 * i : 100);
    }
    due("25 24 hours", x.check(0), 0);
    due("25 none wait then", x.count(5), 0);
    x.tell(40);
    x.tell(50);
    x.tell(61);
    x.tell(71);
    due("25 the first that isn't", x.check(0), 3);
    x.tell(0);
    due("25 not as it is now", x.check(0), 1);
    x.tell(40);
    due("25 pond 1", x.check(1), BEYOND);
    due("25 pond -1", x.check(-1), BEYOND);
    due("25 gone, too", x.count(5), 0);
    due("25 no hour", x.count(3), 0);
    due("25 no water", x.about(0, 1), 0);
    due("25 none came in", x.all(1), 0);
  }

  private static void count() {
    TideMill x = new TideMill();
    x.pond(1, 1, 0);
    x.pond(1, 1, 0);
    x.pond(1, 1, 0);
    x.channel(0, 1, 1);
    x.channel(0, 2, 1);
    x.mill(0, 0, 0, 0, 0);
    x.mill(1, 0, 0, 0, 3);
    x.sack(0, 1, 1, 99);
    x.sack(1, 3, 1, 99);
    x.sack(1, 3, 1, 99);
    x.sack(1, 3, 1, 99);
    x.hours(7);
    x.tell(1);
    x.round(5);
    int[] want = {3, 2, 2, 7, 4, 1, 5};
    for (int what = 0; what < want.length; what++) {
      due("26 count(" + what + ")", x.count(what), want[what]);
    }
    due("26 what 7", x.count(7), BEYOND);
    due("26 what -1", x.count(-1), BEYOND);
  }

  private static void found() {
    TideMill x = new TideMill();
    due("27 0", x.found(0), BEYOND);
    due("27 6", x.found(6), BEYOND);
    due("27 -1", x.found(-1), BEYOND);
    due("27 MIN", x.found(MIN), BEYOND);
    due("27 counted, too", x.found(1), 4);
    x.pond(1, 1, 0);
    x.mill(2, 0, 0, 0, 0);
    x.mill(1, 0, 0, 0, 1);
    x.row(0, 0, 0);
    x.row(1, 0, 0);
    x.sack(1, 2, 1, 0);
    for (int i = 0; i < 5; i++) {
      x.stone(0, 1, 1, 1, 1);
    }
    x.sack(0, 1, 1, 0);
    x.as(0, 1);
    x.as(1, 2);
    int[] want = {0, 4, 2, 1, 2, 3};
    for (int k = 1; k <= 5; k++) {
      due("27 found(" + k + ")", x.found(k), want[k]);
    }
  }
}
