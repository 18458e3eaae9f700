/** Mills that grind by the tide; what each call answers stands in the document's promises. */
public final class TideMill {
  private static final int LOW = -1000000000;
  private static final int BEYOND = 1;
  private static final int NONE = 2;
  private static final int STATE = 3;
  private static final int FULL = 4;
  private static final int KIND = 5;

  private static final int PLACES = 24;
  private static final int MOST_HEIGHT = 200;
  private static final int MOST_PONDS = 4;
  private static final int MOST_AREA = 100;
  private static final int MOST_BANK = 250;
  private static final int MOST_WIDTH = 200;
  private static final int MOST_CHANNELS = 4;
  private static final int MOST_MILLS = 4;
  private static final int MOST_RANK = 9;
  private static final int MOST_LEVEL = 250;
  private static final int MOST_STONES = 3;
  private static final int MOST_LEAST = 200;
  private static final int MOST_DRAW = 1000;
  private static final int MOST_RATE = 20;
  private static final int MOST_GROUND = 1000;
  private static final int MOST_SACKS = 12;
  private static final int MOST_AMOUNT = 2000;
  private static final int CUSTOMERS = 10;
  private static final int LAST_HOUR = 10000;
  private static final int MOST_HOURS = 100;
  private static final int MOST_BEST_HOURS = 8;
  private static final int MOST_HOURS_AHEAD = 48;
  private static final int MOST_TOLD = 24;

  private static final int GATE_SHUT = 0;
  private static final int GATE_FLAP = 1;
  private static final int GATE_OPEN = 2;

  private static final int PLAIN = 0;
  private static final int BAKERS = 1;
  private static final int FULLING = 2;

  private static final int NO_MILL = -1;

  private final Tides tides = new Tides();
  private final Works works = new Works();
  private final Flow flow = new Flow(works);
  private final Search search = new Search(works, tides);
  private final int[] water = new int[MOST_PONDS];
  private final int[] flourOf = new int[CUSTOMERS];
  private final int[] numbers = new int[MOST_TOLD];
  private final int[] findings = new int[KIND + 1];
  // WATER as it would be; made once, so that no call makes a row of its own.
  private final int[] later = new int[MOST_PONDS];
  private int hour = 0;
  private int numbersWaiting = 0;
  private int cameIn = 0;
  private int wentOut = 0;
  private int spilt = 0;
  private int drawn = 0;
  private int putIn = 0;

  public TideMill() {
  }

  // ---- tides

  public int round(int n) {
    if (!isWithin(n, 1, PLACES)) {
      return finding(BEYOND);
    }
    int was = tides.round;
    tides.round = n;
    return was;
  }

  public int height(int place, int v) {
    if (!isWithin(place, 0, PLACES - 1) || !isWithin(v, 0, MOST_HEIGHT)) {
      return finding(BEYOND);
    }
    int was = tides.heights[place];
    tides.heights[place] = v;
    return was;
  }

  public int tide(int hour) {
    return hour < 0 ? finding(BEYOND) : tides.at(hour);
  }

  // ---- ponds

  public int pond(int area, int bank, int width) {
    if (!isWithin(area, 1, MOST_AREA) || !isWithin(bank, 1, MOST_BANK) || !isWidth(width)) {
      return finding(BEYOND);
    }
    if (works.pondCount >= MOST_PONDS) {
      return finding(FULL);
    }
    int number = works.pondCount;
    Pond made = works.ponds[number];
    made.area = area;
    made.bank = bank;
    made.width = width;
    works.pondCount = number + 1;
    return number;
  }

  public int gate(int pond, int how) {
    if (!isPond(pond) || !isWithin(how, GATE_SHUT, GATE_OPEN)) {
      return finding(BEYOND);
    }
    int was = works.ponds[pond].gate;
    works.ponds[pond].gate = how;
    return was;
  }

  public int water(int pond, int v) {
    if (!isPond(pond) || !isWithin(v, 0, works.ponds[pond].brim())) {
      return finding(BEYOND);
    }
    int was = water[pond];
    water[pond] = v;
    putIn += v - was;
    return was;
  }

  public int channel(int a, int b, int width) {
    if (!isPond(a) || !isPond(b) || a == b || !isWidth(width)) {
      return finding(BEYOND);
    }
    if (works.channelCount >= MOST_CHANNELS) {
      return finding(FULL);
    }
    int number = works.channelCount;
    Channel made = works.channels[number];
    made.a = a;
    made.b = b;
    made.width = width;
    works.channelCount = number + 1;
    return number;
  }

  public int widen(int channel, int width) {
    if (!isWithin(channel, 0, works.channelCount - 1) || !isWidth(width)) {
      return finding(BEYOND);
    }
    int was = works.channels[channel].width;
    works.channels[channel].width = width;
    return was;
  }

  public int about(int pond, int what) {
    if (!isPond(pond)) {
      return finding(BEYOND);
    }
    Pond of = works.ponds[pond];
    switch (what) {
      case 0: return of.level(water[pond]);
      case 1: return water[pond];
      case 2: return of.gate;
      case 3: return of.area;
      case 4: return of.bank;
      case 5: return works.millsAt(pond);
      default: return finding(BEYOND);
    }
  }

  // ---- mills

  public int mill(int kind, int pond, int rank, int keeps, int customer) {
    if (!isKind(kind) || !isPond(pond) || !isWithin(rank, 0, MOST_RANK)
        || !isWithin(keeps, 0, MOST_LEVEL) || !isCustomerOfKind(customer, kind)) {
      return finding(BEYOND);
    }
    if (works.millCount >= MOST_MILLS) {
      return finding(FULL);
    }
    int number = works.millCount;
    Mill made = works.mills[number];
    made.kind = kind;
    made.pond = pond;
    made.rank = rank;
    made.keeps = keeps;
    made.customer = customer;
    works.millCount = number + 1;
    works.putInOrder(number);
    return number;
  }

  public int as(int mill, int kind) {
    if (!isMill(mill) || !isKind(kind)) {
      return finding(BEYOND);
    }
    return works.mills[mill].isOf(kind) ? works.mills[mill].rank : finding(KIND);
  }

  public int stone(int mill, int least, int draw, int rate, int most) {
    if (!isMill(mill) || !isWithin(least, 1, MOST_LEAST) || !isWithin(draw, 1, MOST_DRAW)
        || !isWithin(rate, 1, MOST_RATE) || !isWithin(most, 1, MOST_GROUND)) {
      return finding(BEYOND);
    }
    Mill at = works.mills[mill];
    if (at.stoneCount >= MOST_STONES) {
      return finding(FULL);
    }
    int number = at.stoneCount;
    Stone made = at.stones[number];
    made.least = least;
    made.draw = draw;
    made.rate = rate;
    made.most = most;
    at.stoneCount = number + 1;
    return number;
  }

  public int on(int mill, int stone, int is) {
    if (!isMill(mill) || !isWithin(stone, 0, works.mills[mill].stoneCount - 1) || !isWithin(is, 0, 1)) {
      return finding(BEYOND);
    }
    Stone set = works.mills[mill].stones[stone];
    int was = set.isOn ? 1 : 0;
    set.isOn = is == 1;
    return was;
  }

  public int sack(int mill, int customer, int amount, int due) {
    if (!isMill(mill) || !isCustomer(customer) || !isWithin(amount, 1, MOST_AMOUNT) || due < hour) {
      return finding(BEYOND);
    }
    Mill at = works.mills[mill];
    if (at.kind == FULLING) {
      return finding(KIND);
    }
    if (at.kind == BAKERS && customer != at.customer) {
      return finding(STATE);
    }
    if (at.sackCount >= MOST_SACKS) {
      return finding(FULL);
    }
    Sack last = at.sacks[at.sackCount];
    last.customer = customer;
    last.amount = amount;
    last.wants = amount;
    last.due = due;
    at.sackCount++;
    return at.sackCount;
  }

  public int row(int mill, int i, int what) {
    if (!isMill(mill) || !isWithin(what, 0, 3)) {
      return finding(BEYOND);
    }
    Mill at = works.mills[mill];
    if (!isWithin(i, 0, at.sackCount - 1)) {
      return finding(NONE);
    }
    Sack of = at.sacks[i];
    switch (what) {
      case 0: return of.customer;
      case 1: return of.amount;
      case 2: return of.wants;
      default: return of.due;
    }
  }

  public int told(int mill, int what) {
    if (!isMill(mill)) {
      return finding(BEYOND);
    }
    Mill of = works.mills[mill];
    switch (what) {
      case 0: return works.ponds[of.pond].level(water[of.pond]) - tides.at(hour);
      case 1: return of.ground;
      case 2: return of.toll;
      case 3: return of.done;
      case 4: return of.late;
      case 5: return of.idle;
      case 6: return of.cloth;
      case 7: return of.sackCount;
      case 8: return of.stoneCount;
      case 9: return of.rank;
      default: return finding(BEYOND);
    }
  }

  public int flour(int customer) {
    return isCustomer(customer) ? flourOf[customer] : finding(BEYOND);
  }

  // ---- hours

  public int hours(int n) {
    if (!isWithin(n, 1, MOST_HOURS)) {
      return finding(BEYOND);
    }
    if (hour + n > LAST_HOUR) {
      return finding(FULL);
    }
    int ground = 0;
    for (int i = 0; i < n; i++) {
      flow.goBy(water, tides.at(hour), NO_MILL);
      countWater();
      ground += handOutGround();
      hour++;
    }
    return ground;
  }

  public int running() {
    startLater();
    flow.goBy(later, tides.at(hour), NO_MILL);
    int bits = 0;
    for (int i = 0; i < MOST_MILLS * MOST_STONES; i++) {
      // A STONE that RUNS grinds 1 at least, so what is ground tells that it ran.
      if (flow.ground[i] > 0) {
        bits |= 1 << i;
      }
    }
    return bits;
  }

  public int best(int mill, int n, int what) {
    if (!isMill(mill) || !isWithin(n, 1, MOST_BEST_HOURS) || !isWithin(what, 0, 1)) {
      return finding(BEYOND);
    }
    search.start(mill, n, hour, water);
    searchFrom(search, 0, 0, 0);
    return what == 0 ? search.bestSet : search.bestGround;
  }

  public int ahead(int pond, int n) {
    if (!isPond(pond) || !isWithin(n, 0, MOST_HOURS_AHEAD)) {
      return finding(BEYOND);
    }
    startLater();
    for (int i = 0; i < n; i++) {
      flow.goBy(later, tides.at(hour + i), NO_MILL);
    }
    return works.ponds[pond].level(later[pond]);
  }

  public int all(int what) {
    switch (what) {
      case 0: return waterInPonds();
      case 1: return cameIn;
      case 2: return wentOut;
      case 3: return spilt;
      case 4: return drawn;
      case 5: return putIn;
      default: return finding(BEYOND);
    }
  }

  // ---- what is told

  public int tell(int v) {
    if (numbersWaiting >= MOST_TOLD) {
      return finding(FULL);
    }
    numbers[numbersWaiting] = v;
    numbersWaiting++;
    return numbersWaiting;
  }

  public int check(int pond) {
    int n = numbersWaiting;
    // They are gone even where the POND isn't there.
    numbersWaiting = 0;
    if (!isPond(pond)) {
      return finding(BEYOND);
    }
    startLater();
    for (int i = 0; i < n; i++) {
      flow.goBy(later, tides.at(hour + i), NO_MILL);
      if (works.ponds[pond].level(later[pond]) != numbers[i]) {
        return 1 + i;
      }
    }
    return 0;
  }

  public int count(int what) {
    switch (what) {
      case 0: return works.pondCount;
      case 1: return works.channelCount;
      case 2: return works.millCount;
      case 3: return hour;
      case 4: return works.sacksWaiting();
      case 5: return numbersWaiting;
      case 6: return tides.round;
      default: return finding(BEYOND);
    }
  }

  public int found(int k) {
    return isWithin(k, BEYOND, KIND) ? findings[k] : finding(BEYOND);
  }

  // ---- what the calls share

  private int finding(int k) {
    findings[k]++;
    return LOW - k;
  }

  private static boolean isWithin(int v, int least, int most) {
    return v >= least && v <= most;
  }

  private static boolean isWidth(int v) {
    return isWithin(v, 0, MOST_WIDTH);
  }

  private static boolean isKind(int v) {
    return isWithin(v, PLAIN, FULLING);
  }

  private static boolean isCustomer(int v) {
    return isWithin(v, 0, CUSTOMERS - 1);
  }

  private static boolean isCustomerOfKind(int v, int kind) {
    return kind == BAKERS ? isCustomer(v) : v == 0;
  }

  private boolean isPond(int v) {
    return isWithin(v, 0, works.pondCount - 1);
  }

  private boolean isMill(int v) {
    return isWithin(v, 0, works.millCount - 1);
  }

  private int waterInPonds() {
    int sum = 0;
    for (int p = 0; p < works.pondCount; p++) {
      sum += water[p];
    }
    return sum;
  }

  private void countWater() {
    cameIn += flow.cameIn;
    wentOut += flow.wentOut;
    spilt += flow.spilt;
    drawn += flow.drawn;
  }

  private int handOutGround() {
    int sum = 0;
    for (int m = 0; m < works.millCount; m++) {
      Mill mill = works.mills[m];
      if (mill.kind == FULLING) {
        mill.cloth += flow.stonesThatRan(m);
      } else {
        int ground = flow.groundBy(m);
        mill.take(ground, hour, flourOf);
        sum += ground;
      }
    }
    return sum;
  }

  private void startLater() {
    System.arraycopy(water, 0, later, 0, MOST_PONDS);
  }

  // Sets of HOURS that begin alike share what they begin with: it goes by once for all of them.
  private static void searchFrom(Search search, int depth, int set, int ground) {
    if (depth >= search.hours || depth >= MOST_BEST_HOURS) {
      search.keepIfBetter(set, ground);
      return;
    }
    int more = search.goOn(depth, NO_MILL);
    if (more > 0) {
      searchFrom(search, depth + 1, set | 1 << depth, ground + more);
      search.goOn(depth, search.mill);
    }
    // Where its STONES would grind nothing, the HOUR is the same without them, and the set smaller.
    searchFrom(search, depth + 1, set, ground);
  }

  private static final class Tides {
    final int[] heights = new int[PLACES];
    int round = 12;

    Tides() {
      for (int place = 0; place < PLACES; place++) {
        heights[place] = Math.max(0, 100 - 10 * Math.abs(place - 6));
      }
    }

    int at(int hour) {
      return round > 0 && hour >= 0 ? heights[hour % round] : 0;
    }
  }

  private static final class Pond {
    int area = 1;
    int bank = 1;
    int width = 0;
    int gate = GATE_FLAP;

    int level(int water) {
      return area > 0 ? water / area : 0;
    }

    int brim() {
      return area * bank;
    }

    int comesIn(int water, int tide) {
      int above = tide - level(water);
      return gate != GATE_SHUT && above > 0 ? Math.min(width * above, area * tide - water) : 0;
    }

    int goesOut(int water, int tide) {
      int below = level(water) - tide;
      return gate == GATE_OPEN && below > 0 ? Math.min(width * below, water - area * tide) : 0;
    }
  }

  private static final class Channel {
    int a = 0;
    int b = 0;
    int width = 0;
  }

  private static final class Stone {
    int least = 1;
    int draw = 1;
    int rate = 1;
    int most = 1;
    boolean isOn = true;

    boolean runs(int head, int water, int kept) {
      return isOn && head >= least && water >= draw && water - draw >= kept;
    }

    int grinds(int head) {
      return Math.min(head * rate, most);
    }
  }

  private static final class Sack {
    int customer = 0;
    int amount = 0;
    int wants = 0;
    int due = 0;
  }

  private static final class Mill {
    final Stone[] stones = new Stone[MOST_STONES];
    final Sack[] sacks = new Sack[MOST_SACKS];
    int kind = PLAIN;
    int pond = 0;
    int rank = 0;
    int keeps = 0;
    int customer = 0;
    int stoneCount = 0;
    int sackCount = 0;
    int ground = 0;
    int toll = 0;
    int done = 0;
    int late = 0;
    int idle = 0;
    int cloth = 0;

    Mill() {
      for (int i = 0; i < MOST_STONES; i++) {
        stones[i] = new Stone();
      }
      for (int i = 0; i < MOST_SACKS; i++) {
        sacks[i] = new Sack();
      }
    }

    boolean isOf(int wanted) {
      return wanted == PLAIN || wanted == kind;
    }

    void take(int amount, int hour, int[] flourOf) {
      ground += amount;
      int left = amount;
      for (int i = 0; i < MOST_SACKS && sackCount > 0 && left > 0; i++) {
        Sack first = sacks[0];
        int part = Math.min(left, first.wants);
        first.wants -= part;
        left -= part;
        if (first.wants == 0) {
          finishFirst(hour, flourOf);
        }
      }
      idle += left;
    }

    void finishFirst(int hour, int[] flourOf) {
      Sack gone = sacks[0];
      int itsToll = kind == BAKERS ? 0 : gone.amount / 16;
      toll += itsToll;
      done++;
      if (hour > gone.due) {
        late++;
      }
      if (isCustomer(gone.customer)) {
        flourOf[gone.customer] += gone.amount - itsToll;
      }
      sackCount--;
      for (int i = 0; i < MOST_SACKS - 1; i++) {
        sacks[i] = sacks[i + 1];
      }
      // The object is used again for a sack that comes later.
      sacks[MOST_SACKS - 1] = gone;
    }
  }

  /** What is built: PONDS, CHANNELS and MILLS; all objects are made at once, the counts tell which are there. */
  private static final class Works {
    final Pond[] ponds = new Pond[MOST_PONDS];
    final Channel[] channels = new Channel[MOST_CHANNELS];
    final Mill[] mills = new Mill[MOST_MILLS];
    final int[] order = new int[MOST_MILLS];
    int pondCount = 0;
    int channelCount = 0;
    int millCount = 0;

    Works() {
      for (int i = 0; i < MOST_PONDS; i++) {
        ponds[i] = new Pond();
      }
      for (int i = 0; i < MOST_CHANNELS; i++) {
        channels[i] = new Channel();
      }
      for (int i = 0; i < MOST_MILLS; i++) {
        mills[i] = new Mill();
      }
    }

    void putInOrder(int number) {
      int at = number;
      while (at > 0 && mills[order[at - 1]].rank > mills[number].rank) {
        order[at] = order[at - 1];
        at--;
      }
      order[at] = number;
    }

    int millsAt(int pond) {
      int sum = 0;
      for (int m = 0; m < millCount; m++) {
        if (mills[m].pond == pond) {
          sum++;
        }
      }
      return sum;
    }

    int sacksWaiting() {
      int sum = 0;
      for (int m = 0; m < millCount; m++) {
        sum += mills[m].sackCount;
      }
      return sum;
    }

    /** The WATER that a MILL must leave in its POND for those with rights over it. */
    int keptFrom(Mill mill) {
      int greatest = 0;
      for (int m = 0; m < millCount; m++) {
        Mill other = mills[m];
        if (other.pond == mill.pond && other.rank < mill.rank) {
          greatest = Math.max(greatest, other.keeps);
        }
      }
      return ponds[mill.pond].area * greatest;
    }
  }

  /** How one HOUR goes by over a row of WATER, real or thought; it tells of the last HOUR alone. */
  private static final class Flow {
    final Works works;
    final int[] ground = new int[MOST_MILLS * MOST_STONES];
    int cameIn = 0;
    int wentOut = 0;
    int spilt = 0;
    int drawn = 0;

    Flow(Works works) {
      this.works = works;
    }

    void goBy(int[] water, int tide, int restingMill) {
      cameIn = 0;
      wentOut = 0;
      spilt = 0;
      drawn = 0;
      passGates(water, tide);
      passChannels(water);
      runMills(water, tide, restingMill);
      spillBanks(water);
    }

    void passGates(int[] water, int tide) {
      for (int p = 0; p < works.pondCount; p++) {
        int in = works.ponds[p].comesIn(water[p], tide);
        int out = works.ponds[p].goesOut(water[p], tide);
        water[p] += in - out;
        cameIn += in;
        wentOut += out;
      }
    }

    void passChannels(int[] water) {
      for (int c = 0; c < works.channelCount; c++) {
        Channel channel = works.channels[c];
        int levelA = works.ponds[channel.a].level(water[channel.a]);
        int levelB = works.ponds[channel.b].level(water[channel.b]);
        if (levelA > levelB) {
          lead(water, channel.a, channel.b, channel.width * (levelA - levelB));
        } else if (levelB > levelA) {
          lead(water, channel.b, channel.a, channel.width * (levelB - levelA));
        }
      }
    }

    void lead(int[] water, int high, int low, int atMost) {
      int areaHigh = works.ponds[high].area;
      int areaLow = works.ponds[low].area;
      int both = areaHigh + areaLow;
      int toEven = both > 0 ? (water[high] * areaLow - water[low] * areaHigh) / both : 0;
      int part = Math.min(atMost, toEven);
      water[high] -= part;
      water[low] += part;
    }

    void runMills(int[] water, int tide, int restingMill) {
      for (int i = 0; i < MOST_MILLS * MOST_STONES; i++) {
        ground[i] = 0;
      }
      for (int i = 0; i < works.millCount; i++) {
        int m = works.order[i];
        if (m != restingMill) {
          runStones(water, tide, m);
        }
      }
    }

    void runStones(int[] water, int tide, int m) {
      Mill mill = works.mills[m];
      Pond pond = works.ponds[mill.pond];
      int kept = works.keptFrom(mill);
      for (int s = 0; s < mill.stoneCount; s++) {
        Stone stone = mill.stones[s];
        int there = water[mill.pond];
        int head = pond.level(there) - tide;
        if (stone.runs(head, there, kept)) {
          water[mill.pond] = there - stone.draw;
          drawn += stone.draw;
          ground[m * MOST_STONES + s] = stone.grinds(head);
        }
      }
    }

    void spillBanks(int[] water) {
      for (int p = 0; p < works.pondCount; p++) {
        int over = water[p] - works.ponds[p].brim();
        if (over > 0) {
          water[p] -= over;
          spilt += over;
        }
      }
    }

    int groundBy(int mill) {
      int sum = 0;
      for (int s = 0; s < MOST_STONES; s++) {
        sum += ground[mill * MOST_STONES + s];
      }
      return sum;
    }

    int stonesThatRan(int mill) {
      int sum = 0;
      for (int s = 0; s < MOST_STONES; s++) {
        if (ground[mill * MOST_STONES + s] > 0) {
          sum++;
        }
      }
      return sum;
    }
  }

  /** What the search for BEST HOURS has found, and the WATER behind each of the HOURS that it stands in. */
  private static final class Search {
    final Flow flow;
    final Tides tides;
    final int[][] water = new int[MOST_BEST_HOURS + 1][MOST_PONDS];
    int mill = 0;
    int hours = 0;
    int firstHour = 0;
    int bestSet = 0;
    int bestGround = 0;

    Search(Works works, Tides tides) {
      this.flow = new Flow(works);
      this.tides = tides;
    }

    void start(int mill, int hours, int firstHour, int[] waterNow) {
      this.mill = mill;
      this.hours = hours;
      this.firstHour = firstHour;
      bestSet = 0;
      bestGround = 0;
      System.arraycopy(waterNow, 0, water[0], 0, MOST_PONDS);
    }

    int goOn(int depth, int restingMill) {
      System.arraycopy(water[depth], 0, water[depth + 1], 0, MOST_PONDS);
      flow.goBy(water[depth + 1], tides.at(firstHour + depth), restingMill);
      return flow.groundBy(mill);
    }

    void keepIfBetter(int set, int ground) {
      int fewer = Integer.bitCount(bestSet) - Integer.bitCount(set);
      boolean better = ground > bestGround
          || ground == bestGround && (fewer > 0 || fewer == 0 && set < bestSet);
      if (better) {
        bestSet = set;
        bestGround = ground;
      }
    }
  }
}
