/**
 * The edges of an HOUR (Terms 1, 3 and 4 of the document), a test for each sentence: the wrap-around of the tide's
 * round, the lesser of two amounts on both sides of where they are alike, what a STONE wants and one too little of
 * it, the BANK and one above it, a sack's last grain, LATE, IDLE, CLOTH, and which of several sets of HOURS.
 */
public final class HourEdgesTest {
  private static final int SHUT = 0;
  private static final int FLAP = 1;
  private static final int OPEN = 2;
  private static final int MILL = 0;
  private static final int BAKERS = 1;
  private static final int FULLING = 2;

  private static int wrong = 0;

  private static void due(String what, int got, int want) {
    if (got != want) {
      wrong++;
      System.out.println(what + " answered " + got + ", due is " + want);
    }
  }

  public static void main(String[] args) {
    tideOfAnHour();
    tideAsTheHoursGoBy();
    tideAheadAndChecked();
    roundThatChanges();
    headRunningAndBestAtTheWrap();
    gateThatIsShut();
    tideAboveTheLevel();
    tideBelowTheLevel();
    levelsOfAChannel();
    lesserAtAChannel();
    channelsByNumbers();
    headThatAStoneWants();
    waterThatAStoneWants();
    waterThatIsKept();
    whoKeeps();
    millsByRankThenNumbers();
    stonesByNumbers();
    stoneThatIsOff();
    lesserThatAStoneGrinds();
    waterAboveTheBank();
    gatesThenChannelsThenMillsThenBanks();
    firstSackGetsUpTo();
    sackInTheLastPlace();
    fullRowInOneHour();
    whatAllGround();
    tollOfASixteenth();
    lateAboveDue();
    idleIsWhatNoSackTakes();
    clothOfFulling();
    runningAsBits();
    bestOfNone();
    bestNowIsBitZero();
    bestOfTheFewestHours();
    bestThatIsLessAsANumber();
    bestOfItsOwnStonesAlone();
    bestWhoeverGetsIt();
    numbersThatAreLevels();
    allWater();
    behindTheLastHour();
    System.out.println(wrong == 0 ? "all edges are as told" : wrong + " edges are not as told");
    if (wrong != 0) {
      System.exit(1);
    }
  }

  // ---- scenes

  private static TideMill sea(int... heights) {
    TideMill x = new TideMill();
    x.round(heights.length);
    for (int place = 0; place < heights.length; place++) {
      x.height(place, heights[place]);
    }
    return x;
  }

  /** One more POND of AREA 10 and BANK 250 behind a shut GATE. */
  private static int pondWith(TideMill x, int water) {
    int p = x.pond(10, 250, 0);
    x.gate(p, SHUT);
    x.water(p, water);
    return p;
  }

  /** A still sea at 0, and a POND of AREA 10 with a MILL. */
  private static TideMill millAt(int water) {
    TideMill x = sea(0);
    pondWith(x, water);
    x.mill(MILL, 0, 5, 0, 0);
    return x;
  }

  /** A MILL with a STONE that grinds amount in each HOUR, for 500 HOURS at least. */
  private static TideMill grinding(int kind, int customer, int amount) {
    TideMill x = sea(0);
    x.pond(100, 250, 0);
    x.water(0, 25000);
    x.mill(kind, 0, 0, 0, customer);
    x.stone(0, 1, 1, 20, amount);
    return x;
  }

  // ---- Terms 1

  // "TIDE of an HOUR: the HEIGHT at the place HOUR modulo ROUND."
  private static void tideOfAnHour() {
    for (int round = 1; round <= 24; round++) {
      TideMill x = new TideMill();
      for (int place = 0; place < 24; place++) {
        x.height(place, 3 + 7 * place);
      }
      x.round(round);
      for (int hour = 0; hour <= 3 * round; hour++) {
        due("TIDE of " + hour + " by " + round, x.tide(hour), 3 + 7 * (hour % round));
      }
      due("TIDE of MAX by " + round, x.tide(Integer.MAX_VALUE), 3 + 7 * (Integer.MAX_VALUE % round));
    }
  }

  // The same, seen by a POND that always stands as high as the sea.
  private static TideMill withTheSea(int round) {
    TideMill x = new TideMill();
    x.round(round);
    for (int place = 0; place < 24; place++) {
      x.height(place, 3 + 7 * place);
    }
    x.pond(1, 250, 200);
    x.gate(0, OPEN);
    return x;
  }

  private static void tideAsTheHoursGoBy() {
    for (int round = 1; round <= 24; round++) {
      TideMill x = withTheSea(round);
      for (int hour = 0; hour <= 2 * round; hour++) {
        x.hours(1);
        due("WATER behind HOUR " + hour + " by " + round, x.about(0, 1), 3 + 7 * (hour % round));
      }
      x.hours(100);
      due("WATER behind 100 more by " + round, x.about(0, 1), 3 + 7 * ((2 * round + 100) % round));
    }
  }

  private static void tideAheadAndChecked() {
    for (int round = 1; round <= 24; round++) {
      TideMill x = withTheSea(round);
      x.hours(Math.max(1, round - 1)); // the wrap is just ahead
      int now = x.count(3);
      for (int n = 1; n <= 48; n++) {
        due("ahead " + n + " by " + round, x.ahead(0, n), 3 + 7 * ((now + n - 1) % round));
      }
      for (int n = 1; n <= 24; n++) {
        x.tell(3 + 7 * ((now + n - 1) % round));
      }
      due("24 numbers by " + round, x.check(0), 0);
    }
  }

  private static void roundThatChanges() {
    TideMill x = withTheSea(12);
    x.hours(13);
    due("place 0 behind HOUR 12", x.about(0, 1), 3);
    x.round(5);
    x.hours(1);
    due("HOUR 13 of a ROUND of 5 is place 3", x.about(0, 1), 3 + 7 * 3);
    x.round(24);
    x.hours(1);
    due("HOUR 14 of a ROUND of 24 is place 14", x.about(0, 1), 3 + 7 * 14);
    x.round(1);
    x.hours(1);
    due("each HOUR of a ROUND of 1 is place 0", x.about(0, 1), 3);
    x.height(0, 150);
    x.hours(1);
    due("a HEIGHT that changes", x.about(0, 1), 150);
    x.round(24);
    due("HOUR 17 still has a TIDE", x.tide(x.count(3)), 3 + 7 * 17);
  }

  private static void headRunningAndBestAtTheWrap() {
    TideMill x = sea(10, 90, 80);
    pondWith(x, 1000);
    x.mill(MILL, 0, 0, 0, 0);
    x.stone(0, 85, 100, 1, 1000);
    due("head at HOUR 0", x.told(0, 0), 90);
    due("runs at HOUR 0", x.running(), 1);
    x.on(0, 0, 0);
    x.hours(2);
    due("head at the last place", x.told(0, 0), 20);
    x.on(0, 0, 1);
    due("does not run at the last place", x.running(), 0);
    due("best: the HOUR behind the wrap is bit 1", x.best(0, 3, 0), 2);
    due("best: its head is 90", x.best(0, 3, 1), 90);
    x.hours(1);
    due("head at HOUR 3, place 0 again", x.told(0, 0), 90);
    due("runs at HOUR 3", x.running(), 1);
  }

  // ---- Terms 3, (1): GATES

  private static int behindAnHour(int tide, int gate, int width, int water) {
    TideMill x = sea(tide);
    x.pond(10, 250, width);
    x.gate(0, gate);
    x.water(0, water);
    x.hours(1);
    int then = x.about(0, 1);
    due("came in at " + water, x.all(1), Math.max(0, then - water));
    due("went out at " + water, x.all(2), Math.max(0, water - then));
    return then;
  }

  // "if the GATE isn't SHUT"
  private static void gateThatIsShut() {
    due("SHUT, empty", behindAnHour(50, SHUT, 200, 0), 0);
    due("SHUT, just below the TIDE", behindAnHour(50, SHUT, 200, 499), 499);
    due("SHUT, above the TIDE", behindAnHour(50, SHUT, 200, 510), 510);
    due("SHUT, full", behindAnHour(0, SHUT, 200, 2500), 2500);
  }

  // "and the TIDE is above the LEVEL, there comes in the lesser of WIDTH times their difference, and AREA times TIDE
  // less WATER"
  private static void tideAboveTheLevel() {
    // TIDE, WIDTH, WATER, WATER then; AREA 10
    int[][] cases = {
      {50, 0, 0, 0}, {50, 1, 0, 50}, {50, 9, 0, 450}, {50, 10, 0, 500}, {50, 11, 0, 500}, {50, 200, 0, 500},
      {50, 9, 490, 499}, {50, 10, 490, 500}, {50, 11, 490, 500}, // LEVEL 49
      {50, 7, 485, 499}, {50, 8, 485, 500}, {50, 200, 485, 500}, // LEVEL 48: 14, then 16 of 15
      {50, 0, 499, 499}, {50, 1, 499, 500}, {50, 200, 499, 500},
      {50, 200, 500, 500}, {50, 200, 509, 509}, // the TIDE is at the LEVEL
      {200, 10, 0, 2000}, {200, 9, 0, 1800}, {1, 200, 9, 10}, {0, 200, 0, 0}, {0, 200, 9, 9},
    };
    for (int[] c : cases) {
      due("FLAP in: TIDE " + c[0] + " WIDTH " + c[1] + " WATER " + c[2], behindAnHour(c[0], FLAP, c[1], c[2]), c[3]);
      due("OPEN in: TIDE " + c[0] + " WIDTH " + c[1] + " WATER " + c[2], behindAnHour(c[0], OPEN, c[1], c[2]), c[3]);
    }
  }

  // "if it is OPEN and the TIDE is below the LEVEL, there goes out the lesser of WIDTH times their difference, and
  // WATER less AREA times TIDE"
  private static void tideBelowTheLevel() {
    int[][] cases = {
      {50, 0, 510, 510}, {50, 1, 510, 509}, {50, 9, 510, 501}, {50, 10, 510, 500}, {50, 11, 510, 500},
      {50, 18, 519, 501}, {50, 19, 519, 500}, {50, 20, 519, 500}, {50, 200, 519, 500}, // LEVEL 51
      {50, 14, 529, 501}, {50, 15, 529, 500}, // LEVEL 52: 28 of 29, then 30
      {0, 9, 2500, 250}, {0, 10, 2500, 0}, {0, 11, 2500, 0}, {0, 200, 10, 0}, {0, 200, 19, 0},
      {200, 200, 2010, 2000}, {200, 9, 2010, 2001},
    };
    for (int[] c : cases) {
      due("OPEN out: TIDE " + c[0] + " WIDTH " + c[1] + " WATER " + c[2], behindAnHour(c[0], OPEN, c[1], c[2]), c[3]);
      due("FLAP holds: TIDE " + c[0] + " WATER " + c[2], behindAnHour(c[0], FLAP, c[1], c[2]), c[2]);
    }
  }

  // ---- Terms 3, (2): CHANNELS

  /** What is in POND a behind an HOUR, and that POND b has the rest. */
  private static int ledTo(int[] a, int[] b, int width, boolean turned) {
    TideMill x = sea(0);
    x.pond(a[0], 250, 0);
    x.pond(b[0], 250, 0);
    x.water(0, a[1]);
    x.water(1, b[1]);
    x.channel(turned ? 1 : 0, turned ? 0 : 1, width);
    x.hours(1);
    due("nothing is lost in a CHANNEL", x.all(0), a[1] + b[1]);
    due("what a CHANNEL leads doesn't come in", x.all(1), 0);
    due("what a CHANNEL leads doesn't go out", x.all(2), 0);
    return x.about(0, 1);
  }

  private static void led(String what, int[] high, int[] low, int width, int goes) {
    due(what + ", a is higher", ledTo(high, low, width, false), high[1] - goes);
    due(what + ", a is higher, turned", ledTo(high, low, width, true), high[1] - goes);
    due(what + ", b is higher", ledTo(low, high, width, false), low[1] + goes);
    due(what + ", b is higher, turned", ledTo(low, high, width, true), low[1] + goes);
  }

  // "if LEVELS differ"
  private static void levelsOfAChannel() {
    led("LEVELS 5 and 5, WATER 59 and 50", new int[] {10, 59}, new int[] {10, 50}, 200, 0);
    led("both empty", new int[] {10, 0}, new int[] {10, 0}, 200, 0);
    led("LEVELS 0 and 0, WATER 9 and 0", new int[] {10, 9}, new int[] {10, 0}, 200, 0);
    led("LEVELS 5 and 5, AREAS differ", new int[] {10, 59}, new int[] {30, 150}, 200, 0);
    led("LEVELS 6 and 5, WATER 60 and 59", new int[] {10, 60}, new int[] {10, 59}, 200, 0); // 10 by 20 is 0
    led("LEVELS 6 and 5, WATER 60 and 58", new int[] {10, 60}, new int[] {10, 58}, 200, 1); // 20 by 20 is 1
    led("LEVELS 6 and 5, WATER 69 and 50", new int[] {10, 69}, new int[] {10, 50}, 200, 9); // 190 by 20 is 9
  }

  // "from the higher POND to the lower one the lesser of WIDTH times their difference, and (WATER of the higher one
  // times AREA of the lower one, less WATER of the lower one times AREA of the higher one) by both AREAS together"
  private static void lesserAtAChannel() {
    led("WIDTH 0", new int[] {10, 100}, new int[] {10, 0}, 0, 0);
    led("40 of 50", new int[] {10, 100}, new int[] {10, 0}, 4, 40);
    led("50 of 50", new int[] {10, 100}, new int[] {10, 0}, 5, 50);
    led("50, not 60", new int[] {10, 100}, new int[] {10, 0}, 6, 50);
    led("51 and a half is cut", new int[] {10, 103}, new int[] {10, 0}, 6, 51);
    led("50 of 51 and a half", new int[] {10, 103}, new int[] {10, 0}, 5, 50);
    led("70 of 75", new int[] {10, 100}, new int[] {30, 0}, 7, 70);
    led("75, not 80", new int[] {10, 100}, new int[] {30, 0}, 8, 75);
    led("75 of the wide to the narrow", new int[] {30, 300}, new int[] {10, 0}, 8, 75);
    led("a WIDTH of 1 by a difference of 1", new int[] {100, 600}, new int[] {100, 500}, 1, 1);
    led("the most there may be", new int[] {100, 25000}, new int[] {100, 0}, 200, 12500);
    led("49 times 250", new int[] {100, 25000}, new int[] {100, 0}, 49, 12250);
    led("into a drop", new int[] {100, 25000}, new int[] {1, 0}, 200, 247); // 25000 by 101
  }

  // "CHANNELS, by numbers"
  private static void channelsByNumbers() {
    int[][] both = {{0, 1, 1, 2, 500, 250, 250}, {1, 2, 0, 1, 500, 500, 0}};
    for (int[] c : both) {
      TideMill x = sea(0);
      pondWith(x, 1000);
      pondWith(x, 0);
      pondWith(x, 0);
      x.channel(c[0], c[1], 200);
      x.channel(c[2], c[3], 200);
      x.hours(1);
      for (int p = 0; p < 3; p++) {
        due("CHANNELS by numbers, POND " + p, x.about(p, 1), c[4 + p]);
      }
    }
    TideMill y = sea(0);
    pondWith(y, 1000);
    pondWith(y, 0);
    y.channel(0, 1, 1);
    y.channel(1, 0, 1);
    y.hours(1);
    due("the second sees what the first led", y.about(1, 1), 100 + 80);
  }

  // ---- Terms 3, (3): STONES

  // "one that is ON RUNS if the head, LEVEL of its POND less TIDE (as WATER is then), is LEAST or more"
  private static void headThatAStoneWants() {
    int[][] cases = { // WATER, TIDE, LEAST, whether it RUNS
      {500, 0, 49, 1}, {500, 0, 50, 1}, {500, 0, 51, 0}, {509, 0, 51, 0}, {510, 0, 51, 1},
      {500, 30, 20, 1}, {500, 30, 21, 0}, {500, 29, 21, 1}, {500, 49, 1, 1}, {500, 50, 1, 0}, {500, 51, 1, 0},
      {500, 200, 1, 0}, {2000, 0, 200, 1}, {1999, 0, 200, 0}, {2500, 50, 200, 1}, {2500, 51, 200, 0}, {0, 0, 1, 0},
    };
    for (int[] c : cases) {
      TideMill x = sea(c[1]);
      pondWith(x, c[0]);
      x.mill(MILL, 0, 0, 0, 0);
      x.stone(0, c[2], 1, 1, 1000);
      String what = "WATER " + c[0] + " TIDE " + c[1] + " LEAST " + c[2];
      due("runs: " + what, x.running(), c[3]);
      due("grinds: " + what, x.hours(1), c[3] * (c[0] / 10 - c[1]));
      due("draws: " + what, x.all(4), c[3]);
    }
  }

  // "WATER is DRAW or more"; "It draws DRAW"
  private static void waterThatAStoneWants() {
    int[][] cases = {{500, 499, 1}, {500, 500, 1}, {500, 501, 0}, {10, 10, 1}, {10, 11, 0}, {10, 1, 1},
      {1000, 1000, 1}, {999, 1000, 0}};
    for (int[] c : cases) {
      TideMill x = millAt(c[0]);
      x.stone(0, 1, c[1], 1, 1000);
      String what = "WATER " + c[0] + " DRAW " + c[1];
      due("runs: " + what, x.running(), c[2]);
      due("grinds: " + what, x.hours(1), c[2] * (c[0] / 10));
      due("left: " + what, x.about(0, 1), c[0] - c[2] * c[1]);
    }
  }

  // "and behind it isn't below AREA times the greatest LEVEL that some MILL of that POND with a lesser RANK KEEPS"
  private static void waterThatIsKept() {
    int[][] cases = { // WATER, KEEPS, DRAW, whether it RUNS
      {1000, 90, 99, 1}, {1000, 90, 100, 1}, {1000, 90, 101, 0}, {1000, 100, 1, 0}, {1001, 100, 1, 1},
      {1009, 100, 9, 1}, {1009, 100, 10, 0}, {1000, 0, 1000, 1}, {1000, 1, 990, 1}, {1000, 1, 991, 0},
      {2500, 250, 1, 0}, {2500, 249, 10, 1}, {2500, 249, 11, 0},
    };
    for (int[] c : cases) {
      TideMill x = millAt(c[0]);
      x.mill(MILL, 0, 4, c[1], 0);
      x.stone(0, 1, c[2], 1, 1000);
      String what = "WATER " + c[0] + " kept " + c[1] + " DRAW " + c[2];
      due("runs: " + what, x.running(), c[3]);
      x.hours(1);
      due("left: " + what, x.about(0, 1), c[0] - c[3] * c[2]);
    }
  }

  private static void whoKeeps() {
    int[][] cases = { // KIND, POND, RANK, KEEPS of another MILL; whether a STONE of RANK 5 that draws 100 of 1000 RUNS
      {MILL, 0, 4, 91, 0}, {MILL, 0, 5, 91, 1}, {MILL, 0, 6, 91, 1}, {MILL, 0, 0, 91, 0}, {MILL, 0, 9, 91, 1},
      {MILL, 1, 0, 250, 1}, {BAKERS, 0, 4, 91, 0}, {FULLING, 0, 4, 91, 0}, {FULLING, 0, 4, 90, 1},
    };
    for (int[] c : cases) {
      TideMill x = millAt(1000);
      pondWith(x, 0);
      x.mill(c[0], c[1], c[2], c[3], 0);
      x.stone(0, 1, 100, 1, 1000);
      due("KEEPS " + c[3] + " at POND " + c[1] + " by RANK " + c[2] + " of kind " + c[0], x.running(), c[4]);
    }
    TideMill own = sea(0);
    pondWith(own, 1000);
    own.mill(MILL, 0, 0, 250, 0);
    own.stone(0, 1, 100, 1, 1000);
    due("what it KEEPS itself doesn't hold it", own.running(), 1);
    for (int keeper = 0; keeper < 4; keeper++) {
      for (int draws = 0; draws < 4; draws++) {
        if (draws != keeper) {
          TideMill x = sea(0);
          pondWith(x, 1000);
          for (int m = 0; m < 4; m++) {
            x.mill(MILL, 0, m == keeper ? 4 : 5, 91, 0);
          }
          x.stone(draws, 1, 100, 1, 1000);
          due("MILL " + keeper + " keeps from MILL " + draws, x.running(), 0);
          x.water(0, 1010);
          due("MILL " + keeper + " keeps no more from MILL " + draws, x.running(), 1 << 3 * draws);
        }
      }
    }
    int[][] greatest = {{90, 80, 1}, {91, 80, 0}, {80, 91, 0}, {80, 90, 1}};
    for (int[] g : greatest) {
      TideMill x = millAt(1000);
      x.mill(MILL, 0, 1, g[0], 0);
      x.mill(MILL, 0, 2, g[1], 0);
      x.mill(MILL, 0, 6, 250, 0);
      x.stone(0, 1, 100, 1, 1000);
      due("the greatest of " + g[0] + " and " + g[1], x.running(), g[2]);
    }
  }

  // "MILLS, by RANK, then by numbers"
  private static void millsByRankThenNumbers() {
    int[][] ranks = {{0, 0, 0, 0}, {9, 8, 7, 6}, {1, 0, 1, 0}, {3, 3, 0, 9}, {9, 0, 9, 0}};
    int[][] order = {{0, 1, 2, 3}, {3, 2, 1, 0}, {1, 3, 0, 2}, {2, 0, 1, 3}, {1, 3, 0, 2}};
    for (int i = 0; i < ranks.length; i++) {
      for (int served = 0; served <= 4; served++) {
        TideMill x = sea(0);
        pondWith(x, 100 * served + 99); // WATER for so many of them
        int bits = 0;
        for (int m = 0; m < 4; m++) {
          x.mill(MILL, 0, ranks[i][m], 0, 0);
          x.stone(m, 1, 100, 1, 1000);
        }
        for (int k = 0; k < served; k++) {
          bits |= 1 << 3 * order[i][k];
        }
        due("RANKS " + i + ", " + served + " served", x.running(), bits);
        x.hours(1);
        for (int k = 0; k < 4; k++) {
          int ground = k < served ? (100 * (served - k) + 99) / 10 : 0;
          due("RANKS " + i + ", " + served + " served, number " + k, x.told(order[i][k], 1), ground);
        }
      }
    }
  }

  // "each one's STONES by numbers"; "(as WATER is then)"
  private static void stonesByNumbers() {
    TideMill x = millAt(100);
    x.stone(0, 1, 40, 1, 1000);
    x.stone(0, 1, 50, 1, 1000);
    x.stone(0, 1, 20, 1, 1000);
    due("the third has 10 of 20", x.running(), 3);
    due("heads 10 and 6", x.hours(1), 16);
    TideMill y = millAt(100);
    y.stone(0, 1, 70, 1, 1000);
    y.stone(0, 1, 50, 1, 1000);
    y.stone(0, 3, 30, 1, 1000);
    due("one that doesn't RUN doesn't hold the next", y.running(), 5);
    due("heads 10 and 3", y.hours(1), 13);
    due("all is drawn", y.about(0, 1), 0);
    TideMill z = millAt(109);
    z.stone(0, 10, 9, 1, 1000);
    z.stone(0, 10, 1, 1, 1000);
    z.stone(0, 10, 1, 1, 1000);
    due("the head is 10, 10, and 9 behind them", z.running(), 3);
  }

  private static void stoneThatIsOff() {
    for (int bits = 0; bits < 8; bits++) {
      TideMill x = millAt(1000);
      for (int s = 0; s < 3; s++) {
        x.stone(0, 1, 1 + s, 1, 1);
        x.on(0, s, bits >> s & 1);
      }
      due("those that are ON, " + bits, x.running(), bits);
      due("they grind, " + bits, x.hours(1), Integer.bitCount(bits));
    }
  }

  // "and grinds the lesser of head times RATE and MOST"
  private static void lesserThatAStoneGrinds() {
    int[][] cases = { // WATER, RATE, MOST, what it grinds
      {500, 2, 99, 99}, {500, 2, 100, 100}, {500, 2, 101, 100}, {10, 1, 1, 1}, {10, 1, 2, 1}, {20, 1, 1, 1},
      {500, 20, 999, 999}, {500, 20, 1000, 1000}, {510, 20, 1000, 1000}, {2500, 20, 1000, 1000}, {490, 20, 1000, 980},
    };
    for (int[] c : cases) {
      TideMill x = millAt(c[0]);
      x.stone(0, 1, 1, c[1], c[2]);
      due("WATER " + c[0] + " RATE " + c[1] + " MOST " + c[2], x.hours(1), c[3]);
      due("told: WATER " + c[0] + " RATE " + c[1] + " MOST " + c[2], x.told(0, 1), c[3]);
    }
  }

  // ---- Terms 3, (4): BANKS

  // "WATER above AREA times BANK spills."
  private static void waterAboveTheBank() {
    int[][] cases = { // WATER at first, what comes, WATER then, what spilt; AREA 10, BANK 5
      {43, 6, 49, 0}, {44, 6, 50, 0}, {45, 6, 50, 1}, {46, 6, 50, 2}, {49, 6, 50, 5},
    };
    for (int[] c : cases) {
      TideMill x = sea(6);
      x.pond(10, 5, 3); // LEVEL 4: 3 times 2 comes in
      x.water(0, c[0]);
      x.hours(1);
      due("came in to " + c[0], x.all(1), c[1]);
      due("WATER behind " + c[0], x.about(0, 1), c[2]);
      due("spilt behind " + c[0], x.all(3), c[3]);
    }
    TideMill full = sea(5);
    full.pond(10, 5, 200);
    full.water(0, 50);
    full.hours(1);
    due("at the BANK nothing spills", full.all(3), 0);
    TideMill two = sea(6);
    two.pond(10, 5, 200);
    two.pond(1, 4, 200);
    two.hours(1);
    due("both spill: 10 and 2", two.all(3), 12);
    two.hours(2);
    due("and in each HOUR", two.all(3), 36);
    due("what came in", two.all(1), 60 + 6 + 2 * (10 + 2));
    TideMill high = sea(200);
    high.pond(100, 250, 200);
    high.hours(1);
    due("the TIDE may be below the BANK", high.about(0, 1), 20000);
    due("none spills there", high.all(3), 0);
  }

  // (1) to (4), in this order
  private static void gatesThenChannelsThenMillsThenBanks() {
    TideMill x = sea(100);
    x.pond(10, 250, 200);
    pondWith(x, 0);
    x.channel(0, 1, 200);
    x.hours(1);
    due("what comes in is led on in the same HOUR", x.about(1, 1), 500);
    TideMill y = sea(0);
    pondWith(y, 1000);
    y.pond(10, 5, 0);
    y.channel(0, 1, 200);
    y.mill(MILL, 1, 0, 0, 0);
    y.stone(0, 50, 450, 1, 1000);
    due("it runs by the WATER above the BANK", y.hours(1), 50);
    due("and what it draws doesn't spill", y.all(3), 0);
    due("so that POND 1 is full", y.about(1, 1), 50);
    TideMill z = sea(0);
    pondWith(z, 1000);
    z.pond(10, 5, 0);
    z.channel(0, 1, 200);
    z.mill(MILL, 1, 0, 0, 0);
    z.stone(0, 50, 449, 1, 1000);
    z.hours(1);
    due("one more spills", z.all(3), 1);
    TideMill out = sea(0);
    out.pond(10, 250, 200);
    out.gate(0, OPEN);
    out.water(0, 2500);
    out.mill(MILL, 0, 0, 0, 0);
    out.stone(0, 1, 1, 1, 1000);
    due("what goes out first turns no STONE", out.hours(1), 0);
  }

  // ---- Terms 3: what is ground

  // "the first sack gets up to what it still wants, and so on; a sack that wants nothing more is DONE, and goes"
  private static void firstSackGetsUpTo() {
    int[][] cases = { // AMOUNTS of two sacks; sacks that wait, what the first still wants, IDLE; 50 are ground
      {51, 9, 2, 1, 0}, {50, 9, 1, 9, 0}, {49, 9, 1, 8, 0}, {41, 9, 0, 0, 0}, {42, 9, 1, 1, 0}, {40, 9, 0, 0, 1},
      {1, 50, 1, 1, 0}, {1, 49, 0, 0, 0}, {2000, 1, 2, 1950, 0}, {1, 1, 0, 0, 48},
    };
    for (int[] c : cases) {
      TideMill x = grinding(MILL, 0, 50);
      x.sack(0, 1, c[0], 9);
      x.sack(0, 2, c[1], 9);
      x.hours(1);
      String what = "sacks of " + c[0] + " and " + c[1];
      due(what + ": wait", x.told(0, 7), c[2]);
      due(what + ": in all", x.count(4), c[2]);
      due(what + ": DONE", x.told(0, 3), 2 - c[2]);
      if (c[2] > 0) {
        due(what + ": the first wants", x.row(0, 0, 2), c[3]);
        due(what + ": of", x.row(0, 0, 1), c[c[2] == 2 ? 0 : 1]);
      }
      due(what + ": IDLE", x.told(0, 5), c[4]);
      due(what + ": flour of the first", x.flour(1), c[2] < 2 ? c[0] - c[0] / 16 : 0);
      due(what + ": flour of the second", x.flour(2), c[2] < 1 ? c[1] - c[1] / 16 : 0);
    }
    TideMill y = grinding(MILL, 0, 1000);
    y.sack(0, 1, 2000, 9);
    y.hours(1);
    due("half of the greatest", y.row(0, 0, 2), 1000);
    y.hours(1);
    due("it is DONE", y.told(0, 3), 1);
    due("nothing is IDLE", y.told(0, 5), 0);
  }

  private static void sackInTheLastPlace() {
    TideMill x = grinding(MILL, 0, 120);
    for (int i = 0; i < 12; i++) {
      x.sack(0, i % 10, 10 + i, 20 + i);
    }
    x.hours(1); // the sacks of 10 .. 18 are 126: eight are DONE (108), the ninth has 12 of 18
    due("four wait", x.told(0, 7), 4);
    due("the first wants", x.row(0, 0, 2), 6);
    for (int i = 0; i < 4; i++) {
      due("AMOUNT of " + i, x.row(0, i, 1), 18 + i);
      due("DUE of " + i, x.row(0, i, 3), 28 + i);
      due("CUSTOMER of " + i, x.row(0, i, 0), (8 + i) % 10);
    }
    due("NONE behind them", x.row(0, 4, 0), -1000000002);
    for (int i = 5; i <= 12; i++) {
      due("there is room again: " + i, x.sack(0, 3, 100 + i, 50 + i), i);
    }
    due("and FULL again", x.sack(0, 3, 1, 50), -1000000004);
    for (int i = 4; i < 12; i++) {
      due("AMOUNT of the new " + i, x.row(0, i, 1), 101 + i);
      due("it wants all, " + i, x.row(0, i, 2), 101 + i);
      due("DUE of the new " + i, x.row(0, i, 3), 51 + i);
    }
    x.hours(8);
    // 960: the old ones want 6 + 19 + 20 + 21, the new ones 105 + .. + 112.
    due("all are DONE", x.told(0, 3), 20);
    due("the rest is IDLE", x.told(0, 5), 960 - 66 - 868);
  }

  private static void fullRowInOneHour() {
    for (int more = 0; more <= 1; more++) {
      TideMill x = grinding(MILL, 0, 12 * 32 + 11 + more); // twelve sacks: eleven of 33, one of 32
      for (int i = 0; i < 12; i++) {
        x.sack(0, i % 10, i < 11 ? 33 : 32, 0);
      }
      x.hours(1);
      due("twelve DONE in an HOUR", x.told(0, 3), 12);
      due("none waits", x.told(0, 7), 0);
      due("IDLE", x.told(0, 5), more);
      due("TOLL", x.told(0, 2), 24);
      due("flour of 0", x.flour(0), 62);
      due("flour of 1", x.flour(1), 31 + 30);
      due("flour of 2", x.flour(2), 31);
    }
    TideMill y = grinding(MILL, 0, 12 * 32 - 1);
    for (int i = 0; i < 12; i++) {
      y.sack(0, i % 10, 32, 0);
    }
    y.hours(1);
    due("eleven DONE, one grain too few", y.told(0, 3), 11);
    due("which the last one wants", y.row(0, 0, 2), 1);
  }

  // 19: "n HOURS go by: what all ground."
  private static void whatAllGround() {
    TideMill x = sea(0);
    pondWith(x, 2500);
    int[] most = {3, 50, 700, 11};
    int[] kinds = {MILL, BAKERS, FULLING, MILL};
    for (int m = 0; m < 4; m++) {
      x.mill(kinds[m], 0, 0, 0, 0);
      x.stone(m, 1, 1, 20, most[m]);
      x.stone(m, 1, 1, 20, 1);
    }
    due("one HOUR: 4, 51 and 12", x.hours(1), 67);
    due("five HOURS", x.hours(5), 335);
    int[] want = {24, 306, 0, 72};
    for (int m = 0; m < 4; m++) {
      due("MILL " + m + " in all", x.told(m, 1), want[m]);
      due("its IDLE", x.told(m, 5), want[m]);
    }
    x.water(0, 0);
    due("nothing", x.hours(100), 0);
  }

  // "TOLL of a sixteenth of its AMOUNT, of BAKERS none"
  private static void tollOfASixteenth() {
    int[][] cases = {{1, 0}, {15, 0}, {16, 1}, {17, 1}, {31, 1}, {32, 2}, {1999, 124}, {2000, 125}};
    for (int[] c : cases) {
      TideMill x = grinding(MILL, 0, 1000);
      x.sack(0, 4, c[0], 9);
      x.hours(2);
      due("TOLL of " + c[0], x.told(0, 2), c[1]);
      due("flour of " + c[0], x.flour(4), c[0] - c[1]);
      TideMill y = grinding(BAKERS, 4, 1000);
      y.sack(0, 4, c[0], 9);
      y.hours(2);
      due("BAKERS: no TOLL of " + c[0], y.told(0, 2), 0);
      due("BAKERS: flour of " + c[0], y.flour(4), c[0]);
    }
    TideMill z = grinding(MILL, 0, 1000);
    z.sack(0, 9, 31, 9);
    z.sack(0, 9, 31, 9);
    z.hours(1);
    due("each sack is cut for itself", z.told(0, 2), 2);
    due("in all", z.flour(9), 60);
  }

  // "it is LATE if the HOUR in which it is DONE is above DUE"
  private static void lateAboveDue() {
    int[] hours = {1, 2, 3, 100};
    for (int n : hours) {
      for (int less = 0; less <= 2; less++) {
        TideMill x = grinding(MILL, 0, 5);
        int done = n - 1; // the sack is DONE in this HOUR
        if (done - less >= 0) {
          x.sack(0, 1, 5 * n, done - less);
          x.hours(n);
          due("DONE in " + done + ", DUE by " + (done - less), x.told(0, 3), 1);
          due("LATE, DONE in " + done + ", DUE by " + (done - less), x.told(0, 4), less == 0 ? 0 : 1);
        }
        TideMill y = grinding(BAKERS, 1, 5);
        y.sack(0, 1, 5 * n, done + less);
        y.hours(n);
        due("BAKERS: DONE in " + done + ", DUE by " + (done + less), y.told(0, 4), 0);
      }
    }
    TideMill z = grinding(MILL, 0, 5);
    z.sack(0, 1, 10, 0);
    z.sack(0, 1, 5, 1);
    z.sack(0, 1, 5, Integer.MAX_VALUE);
    z.hours(1);
    due("not LATE before it is DONE", z.told(0, 4), 0);
    z.hours(1);
    due("the first is LATE", z.told(0, 4), 1);
    z.hours(1);
    due("the second is, too", z.told(0, 4), 2);
    z.hours(1);
    due("the third is not", z.told(0, 4), 2);
  }

  // "What no sack takes is IDLE."
  private static void idleIsWhatNoSackTakes() {
    TideMill x = grinding(MILL, 0, 7);
    x.hours(1);
    due("no sack at all", x.told(0, 5), 7);
    x.sack(0, 1, 20, 9);
    x.hours(2);
    due("a sack that takes all", x.told(0, 5), 7);
    x.hours(1);
    due("6 of 7 taken", x.told(0, 5), 8);
    x.hours(3);
    due("none takes it once more", x.told(0, 5), 29);
    due("ground in all", x.told(0, 1), 49);
    TideMill y = grinding(BAKERS, 3, 7);
    y.sack(0, 3, 13, 9);
    y.hours(2);
    due("of BAKERS", y.told(0, 5), 1);
    TideMill one = grinding(MILL, 0, 1);
    one.sack(0, 1, 2, 9);
    one.hours(1);
    due("a single grain is taken", one.row(0, 0, 2), 1);
    due("it is not IDLE", one.told(0, 5), 0);
    one.hours(2);
    due("the last one is", one.told(0, 5), 1);
  }

  // "FULLING: each STONE that RUNS counts one HOUR of CLOTH; what it grinds is not told of anywhere else."
  private static void clothOfFulling() {
    for (int stones = 0; stones <= 3; stones++) {
      TideMill x = sea(0);
      pondWith(x, 1000);
      x.mill(FULLING, 0, 0, 0, 0);
      for (int s = 0; s < stones; s++) {
        x.stone(0, 1, 1, 1, 1); // each grinds 1
      }
      due("FULLING with " + stones + " grinds for nobody", x.hours(1), 0);
      due("CLOTH of " + stones, x.told(0, 6), stones);
      x.hours(4);
      due("CLOTH of " + stones + " in 5 HOURS", x.told(0, 6), 5 * stones);
      due("ground", x.told(0, 1), 0);
      due("IDLE", x.told(0, 5), 0);
      due("DONE", x.told(0, 3), 0);
      due("drawn all the same", x.all(4), 5 * stones);
    }
    TideMill y = sea(0);
    pondWith(y, 1000);
    y.mill(FULLING, 0, 0, 0, 0);
    y.mill(MILL, 0, 1, 0, 0);
    y.stone(0, 1, 100, 1, 1000);
    y.stone(0, 91, 100, 1, 1000); // the head is 90 behind the first
    y.stone(1, 1, 100, 1, 1000);
    due("the other MILL's alone", y.hours(1), 90);
    due("one STONE ran", y.told(0, 6), 1);
    due("a MILL has no CLOTH", y.told(1, 6), 0);
  }

  // ---- 20: "STONES that would RUN in the HOUR now, as bits (3 times MILL and STONE)."
  private static void runningAsBits() {
    for (int m = 0; m < 4; m++) {
      for (int s = 0; s < 3; s++) {
        TideMill x = sea(0);
        pondWith(x, 2500);
        for (int i = 0; i < 4; i++) {
          x.mill(i % 3, 0, 0, 0, 0);
          for (int k = 0; k < 3; k++) {
            x.stone(i, 1, 1, 1, 1);
            x.on(i, k, i == m && k == s ? 1 : 0);
          }
        }
        due("STONE " + s + " of MILL " + m + " alone", x.running(), 1 << 3 * m + s);
      }
    }
    due("none of none", new TideMill().running(), 0);
    TideMill all = sea(0);
    pondWith(all, 2500);
    for (int i = 0; i < 12; i++) {
      if (i % 3 == 0) {
        all.mill(MILL, 0, 9 - i / 3, 0, 0);
      }
      all.stone(i / 3, 1, 1, 1, 1);
    }
    due("all twelve", all.running(), 4095);
    all.water(0, 0);
    due("none without WATER", all.running(), 0);
  }

  // ---- Terms 4: BEST HOURS

  private static void best(String what, TideMill x, int mill, int n, int bits, int ground) {
    due(what + ", bits", x.best(mill, n, 0), bits);
    due(what + ", ground", x.best(mill, n, 1), ground);
  }

  private static void bestOfNone() {
    TideMill x = millAt(2500);
    best("no STONES", x, 0, 8, 0, 0);
    x.stone(0, 1, 10, 1, 1000);
    x.on(0, 0, 0);
    best("none is ON", x, 0, 8, 0, 0);
    x.on(0, 0, 1);
    x.water(0, 0);
    best("no WATER", x, 0, 8, 0, 0);
    x.water(0, 2500);
    x.height(0, 200);
    best("a head of 50", x, 0, 1, 1, 50);
    x.mill(MILL, 0, 0, 250, 0);
    best("all is kept", x, 0, 8, 0, 0);
    TideMill y = grinding(MILL, 0, 9);
    for (int n = 1; n <= 8; n++) {
      best("every HOUR of " + n, y, 0, n, (1 << n) - 1, 9 * n);
    }
  }

  // "(the one now is bit 0)"
  private static void bestNowIsBitZero() {
    for (int ebb = 0; ebb < 8; ebb++) {
      int[] heights = {200, 200, 200, 200, 200, 200, 200, 200, 200};
      heights[ebb] = 0;
      TideMill x = sea(heights);
      pondWith(x, 1000);
      x.mill(MILL, 0, 0, 0, 0);
      x.stone(0, 1, 1, 1, 77);
      best("the ebb in " + ebb, x, 0, 8, 1 << ebb, 77);
      best("the ebb in " + ebb + ", just so far", x, 0, ebb + 1, 1 << ebb, 77);
      if (ebb > 0) {
        best("the ebb in " + ebb + ", one HOUR too few", x, 0, ebb, 0, 0);
        x.hours(ebb);
        best("the ebb now, " + ebb, x, 0, 1, 1, 77);
      }
    }
  }

  // "of several that with the fewest HOURS"
  private static void bestOfTheFewestHours() {
    // 300 of WATER, LEAST 5, DRAW 100: HOUR 0 has a head of 10; HOUR 2 alone 20; HOURS 0 and 2 are 10 and 10.
    TideMill x = sea(20, 20, 10);
    pondWith(x, 300);
    x.mill(MILL, 0, 0, 0, 0);
    x.stone(0, 5, 100, 1, 1000);
    best("20 in one HOUR, not in two", x, 0, 3, 4, 20);
    best("two HOURS alone: the first", x, 0, 2, 1, 10);
    // One more is ground by two: then it is two.
    TideMill y = sea(20, 20, 10);
    pondWith(y, 310);
    y.mill(MILL, 0, 0, 0, 0);
    y.stone(0, 5, 100, 1, 1000);
    best("11 and 11 are more than 21", y, 0, 3, 5, 22);
  }

  // "then the one that is less as a number"
  private static void bestThatIsLessAsANumber() {
    // MOST makes every HOUR alike; WATER is there for 1, 2, .. of them: the first ones are the least number.
    for (int times = 1; times <= 8; times++) {
      TideMill x = sea(0);
      pondWith(x, 200 * times + 10);
      x.mill(MILL, 0, 0, 0, 0);
      x.stone(0, 1, 200, 1, 1);
      best(times + " of 8 HOURS", x, 0, 8, (1 << times) - 1, times);
    }
    // {1, 2} and {0, 3} both grind 4: LEVEL 6, tides 4 3 2 1, two STONES: 6 is less than 9.
    TideMill y = sea(4, 3, 2, 1, 1);
    y.pond(1, 7, 0);
    y.gate(0, SHUT);
    y.water(0, 6);
    y.mill(MILL, 0, 1, 2, 0);
    y.stone(0, 3, 1, 2, 2);
    y.stone(0, 1, 2, 1, 1);
    best("6, not 9", y, 0, 5, 6, 4);
  }

  // "those in which its STONES that are ON now are so, in the others none of its is (all else as it is)"
  private static void bestOfItsOwnStonesAlone() {
    TideMill x = millAt(1000);
    x.stone(0, 1, 10, 1, 5);
    x.stone(0, 1, 10, 1, 50);
    best("both are ON", x, 0, 2, 3, 110);
    x.on(0, 1, 0);
    best("one is ON", x, 0, 2, 3, 10);
    x.mill(MILL, 0, 4, 0, 0);
    x.stone(1, 1, 10, 20, 1000);
    best("the other's isn't reckoned", x, 0, 2, 3, 10);
    x.on(1, 0, 0);
    best("the other's, all OFF", x, 1, 8, 0, 0);
    TideMill y = millAt(1000);
    y.stone(0, 1, 100, 1, 1000);
    y.mill(MILL, 0, 4, 0, 0);
    y.stone(1, 1, 500, 1, 1000);
    // In HOUR 0 the other leaves 500, so the head is 50; then 400 are there, and the other wants 500.
    best("the other goes on", y, 0, 4, 15, 50 + 40 + 30 + 20);
    // The other has 100 in HOUR 0 and no WATER then; in HOUR 1 alone it would have 90, as this MILL draws, too.
    best("the other, one HOUR", y, 1, 1, 1, 100);
    best("the other, two HOURS", y, 1, 2, 1, 100);
  }

  // "by (3) of 3 (of FULLING, too; whoever gets it)"
  private static void bestWhoeverGetsIt() {
    for (int kind = 0; kind <= 2; kind++) {
      TideMill x = grinding(kind, 0, 30);
      best("no sack, kind " + kind, x, 0, 3, 7, 90);
      if (kind != FULLING) {
        x.sack(0, 0, 10, 9);
        best("a small sack, kind " + kind, x, 0, 3, 7, 90);
        due("it still wants all, kind " + kind, x.row(0, 0, 2), 10);
      }
      due("nothing is told of it, kind " + kind, x.told(0, 1), 0);
      due("no CLOTH, kind " + kind, x.told(0, 6), 0);
    }
  }

  // ---- 25: "LEVELS of a POND behind 1, 2, .. more HOURS: 0 if they are; 1 and i for the first (from 0 on) that isn't"
  private static void numbersThatAreLevels() {
    for (int n = 0; n <= 24; n++) {
      for (int bad = -1; bad < n; bad++) {
        TideMill x = withTheSea(24);
        for (int i = 0; i < n; i++) {
          x.tell(i == bad ? 3 + 7 * i + 1 : 3 + 7 * i);
        }
        due(n + " numbers, not the one at " + bad, x.check(0), bad + 1);
        due("none wait then", x.count(5), 0);
        due("so that the next is asked of none", x.check(0), 0);
      }
    }
    TideMill y = withTheSea(24);
    y.tell(3);
    y.tell(11);
    y.tell(18);
    due("the first of two that aren't", y.check(0), 2);
    y.tell(4);
    due("one more", y.check(0), 1);
    y.tell(2);
    due("one less", y.check(0), 1);
    y.tell(3);
    due("just so", y.check(0), 0);
    y.pond(10, 250, 1);
    int[] levels = {0, 1, 2}; // WATER is 3, 13, 29
    for (int level : levels) {
      y.tell(level);
    }
    due("that POND's LEVELS", y.check(1), 0);
    for (int level : levels) {
      y.tell(level);
    }
    due("not this POND's", y.check(0), 1);
    for (int level : levels) {
      y.tell(level);
    }
    due("that POND's, whatever was looked at before", y.check(1), 0);
    y.running();
    y.ahead(1, 48);
    y.tell(0);
    due("and behind ahead()", y.check(1), 0);
    due("ahead behind check()", y.ahead(1, 1), 0);
    due("ahead of ahead()", y.ahead(1, 0), 0);
  }

  // ---- 23: "0 in PONDS, 1 that came in, 2 that went out, 3 that spilt, 4 that was drawn, 5 that water() put in, less
  // what it took"
  private static void allWater() {
    TideMill x = sea(50, 0);
    x.pond(10, 40, 200);
    x.pond(1, 250, 200);
    x.gate(0, OPEN);
    x.gate(1, OPEN);
    x.mill(MILL, 0, 0, 0, 0);
    x.stone(0, 1, 1, 1, 1);
    for (int i = 1; i <= 3; i++) {
      x.hours(2); // 500 and 50 come in, 100 spill; then 400 and 50 go out
      due("came in " + i, x.all(1), 550 * i);
      due("spilt " + i, x.all(3), 100 * i);
      due("went out " + i, x.all(2), 450 * i);
      due("in PONDS " + i, x.all(0), 0);
    }
    x.gate(0, SHUT);
    x.gate(1, SHUT);
    due("of 0", x.water(0, 400), 0);
    due("put in", x.all(5), 400);
    due("the same once more", x.water(0, 400), 400);
    due("put in nothing more", x.all(5), 400);
    x.water(1, 250);
    due("both", x.all(5), 650);
    due("in PONDS", x.all(0), 650);
    x.hours(2); // HOUR 6 has a TIDE of 50: head -10; HOUR 7 one of 0
    due("drawn", x.all(4), 1);
    due("took", x.water(0, 0), 399);
    due("less what it took", x.all(5), 251);
    x.water(1, 0);
    due("it may be above 0 by what was drawn", x.all(5), 1);
  }

  // ---- 19: the HOUR is at most 10000, but what only looks on looks past it (no finding is named for it).
  private static void behindTheLastHour() {
    TideMill x = withTheSea(24);
    for (int i = 0; i < 100; i++) {
      x.hours(100);
    }
    due("HOUR 10000", x.count(3), 10000);
    due("ahead 1", x.ahead(0, 1), 3 + 7 * (10000 % 24));
    due("ahead 48", x.ahead(0, 48), 3 + 7 * (10047 % 24));
    x.tell(3 + 7 * 16);
    x.tell(3 + 7 * 17);
    due("check", x.check(0), 0);
    TideMill y = grinding(MILL, 0, 1);
    for (int i = 0; i < 100; i++) {
      y.hours(100);
    }
    due("what it ground", y.told(0, 1), 10000);
    due("it would run", y.running(), 1);
    best("at HOUR 10000", y, 0, 8, 255, 8);
    due("a sack that is DUE by 10000", y.sack(0, 1, 5, 10000), 1);
    due("the HOUR would be above 10000", y.hours(1), -1000000004);
    due("so it waits", y.row(0, 0, 2), 5);
  }
}
