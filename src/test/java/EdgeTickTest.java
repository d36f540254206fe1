/** A test for each sentence of Terms II and of promises 7 to 9, 13 to 23 that names an edge. */
public final class EdgeTickTest {
  static final int LEAST = Integer.MIN_VALUE;
  static final int MOST = Integer.MAX_VALUE;
  /** a HOLDS from TICK 0 on; b WAITS, its SKEW is 0, its PATIENCE 3. */
  static final String PAIR = "gate a;gate b;link l;group g every 1;member a of g word 255;member b of g word 254;";

  public static void main(String[] args) throws Exception {
    Kit.runEach(EdgeTickTest.class, "terms2", "promise07", "promise08", "promise09", "promise13", "promise14", "promise15", "promise16", "promise17",
        "promise18", "promise19", "promise20", "promise21", "promise22", "promise23");
  }

  static void due(String call, long got, long want) { Kit.due(call, got, want); }

  /** What a call that is refused leaves: all as it was. */
  static void unchanged(GateGroup x, int[] before, int acts) {
    Kit.same("as it was", Kit.picture(x), before);
    due("ACTS", x.has(13), acts);
  }

  /** A change as THE LOG tells it: TICK, GROUP, GATE, what. */
  static void log(GateGroup x, int i, int... want) {
    for (int w = 0; w < 4; w++) due("log(" + i + ", " + w + ")", x.log(i, w), want[w]);
  }

  // ---- Terms II: words, SKEW, who begins how

  static void terms2AtFirstAllAreUpAndWholeInOnePart() {
    GateGroup x = Kit.of(EdgeTextTest.GATES + EdgeTextTest.LINKS + EdgeTextTest.GROUPS);
    due("TICK", x.has(5), 0);
    due("up", x.has(6), 63);
    due("cut", x.has(7), 0);
    due("PART 1", x.has(8), 0);
  }

  static void terms2WordIs1AtLeast() {
    int[][] less = {{8, 2}, {9, 1}, {10, 1}, {254, 1}};
    for (int[] l : less) {
      GateGroup x = Kit.of("gate a;link l;group g every 1;member a of g word 10;track a of g by l less " + l[0] + ";");
      due("whole", x.member(0, 0, 1), 10);
      x.cut(0, true);
      due("less " + l[0], x.member(0, 0, 1), l[1]);
      due("as told", x.member(0, 0, 0), 10);
      x.word(0, 0, 1);
      due("1 less " + l[0], x.member(0, 0, 1), 1);
    }
  }

  static void terms2SeveralTracksTakeTogether() {
    GateGroup x = Kit.of("gate a;link k;link l;link m;group g every 1;member a of g word 254;track a of g by k less 100;track a of g by l less 100;track a of g by m less 100;");
    int[] words = {154, 54, 1};
    for (int k = 0; k < 3; k++) { x.cut(k, true); due("cut " + k, x.member(0, 0, 1), words[k]); }
    x.cut(0, false);
    due("mended", x.member(0, 0, 1), 54);
  }

  static void terms2WordOf255IsAlwaysThat() {
    GateGroup x = Kit.of("gate a;link l;group g every 1;member a of g word 255;track a of g by l less 254;");
    x.cut(0, true);
    due("255", x.member(0, 0, 1), 255);
    x.word(0, 0, 254);
    due("254 less 254", x.member(0, 0, 1), 1);
    x.word(0, 0, 255);
    due("255 told while it is cut", x.member(0, 0, 1), 255);
  }

  static void terms2OfLikeWordsTheGreaterNumberOfItsGate() {
    GateGroup x = Kit.of("gate a;gate b;gate c;group g every 1;member c of g word 7;member a of g word 7;member b of g word 7;");
    x.ticks(4);
    due("all began, c holds", x.group(0, 8), 4);
    due("TAKES", x.group(0, 7), 3);
    for (int k = 0; k < 3; k++) due("rank", x.rank(0, k), 2 - k);
  }

  static void terms2SkewIsCut() {
    int[][] rows = {{1, 1, 0}, {1, 255, 0}, {2, 128, 1}, {2, 129, 0}, {2, 1, 1}, {3, 85, 2}, {3, 86, 1}, {40, 1, 39}, {40, 249, 1}, {40, 250, 0}, {40, 254, 0}, {40, 255, 0}};
    for (int[] r : rows) {
      GateGroup x = Kit.of("gate a;group g every " + r[0] + ";member a of g word " + r[1] + ";");
      due("SKEW of every " + r[0] + " word " + r[1], x.member(0, 0, 5), r[2]);
      due("PATIENCE", x.member(0, 0, 6), 3 * r[0] + r[2]);
      due("CLOCK", x.member(0, 0, 4), r[1] == 255 ? 0 : 3 * r[0] + r[2]);
    }
  }

  static void terms2SkewFollowsTheWordAsItIs() {
    GateGroup x = Kit.of("gate a;link l;group g every 40;member a of g word 255;track a of g by l less 254;");
    x.cut(0, true);
    due("255", x.member(0, 0, 5), 0);
    x.word(0, 0, 254);
    due("1", x.member(0, 0, 5), 39);
    due("PATIENCE", x.member(0, 0, 6), 159);
    x.cut(0, false);
    due("254", x.member(0, 0, 5), 0);
  }

  static void terms2ClockStaysAsTheWordChanges() {
    GateGroup x = Kit.of("gate a;link l;group g every 40;member a of g word 254;track a of g by l less 253;");
    x.cut(0, true);
    due("CLOCK", x.member(0, 0, 4), 120);
    x.word(0, 0, 1);
    due("CLOCK", x.member(0, 0, 4), 120);
    x.down(0, false);
    x.up(0);
    due("anew", x.member(0, 0, 4), 159);
  }

  static void terms2Word255HoldsAtTick0() {
    GateGroup x = Kit.of("gate a;group g every 9;group h every 9;member a of g word 255;member a of h word 254;");
    due("255 HOLDS", x.member(0, 0, 3), 2);
    due("254 WAITS", x.member(1, 0, 3), 1);
    due("CLOCK", x.member(0, 0, 4), 0);
    due("TAKES", x.group(0, 7), 1);
    due("TAKES", x.group(1, 7), 0);
    due("THE LOG", x.has(12), 1);
    due("at TICK 0", x.log(0, 0), 0);
    due("no letter yet", x.has(14), 0);
    x.ticks(1);
    due("sent at TICK 0", x.has(14), 1);
  }

  static void terms2Word255HoldsAsItsGateComesUp() {
    GateGroup x = Kit.of("gate a;group g every 9;group h every 9;member a of g word 255;member a of h word 254;");
    x.ticks(100);
    x.down(0, false);
    x.up(0);
    due("255 HOLDS", x.member(0, 0, 3), 2);
    due("CLOCK", x.member(0, 0, 4), 0);
    due("254 WAITS", x.member(1, 0, 3), 1);
    due("PATIENCE", x.member(1, 0, 4), 27);
    Kit.plan(x, "at 100 down a;at 100 up a;");
    x.ticks(1);
    due("by an EVENT, too", x.group(0, 7), 3);
    due("at TICK 100", x.log(0, 0), 100);
  }

  static void terms2Word255ToldWhileItWaitsWaits() {
    GateGroup x = Kit.of("gate a;group g every 1;member a of g word 254;");
    x.word(0, 0, 255);
    due("WAITS", x.member(0, 0, 3), 1);
    x.ticks(3);
    due("WAITS", x.member(0, 0, 3), 1);
    x.ticks(1);
    due("HOLDS", x.member(0, 0, 3), 2);
  }

  static void terms2Word255ThatGivesUpWaits() {
    GateGroup x = Kit.of("gate a;gate b;group g every 5;member a of g word 255;member b of g word 255;");
    due("both", x.group(0, 8), 3);
    x.ticks(1);
    due("b", x.group(0, 8), 2);
    due("a WAITS", x.member(0, 0, 3), 1);
    due("PATIENCE", x.member(0, 0, 4), 15);
  }

  // ---- Terms II: a TICK

  static void terms2WaitsTillItsClockIs0() {
    GateGroup x = Kit.of("gate a;group g every 1;member a of g word 254;");
    x.ticks(3);
    due("CLOCK", x.member(0, 0, 4), 0);
    due("WAITS", x.member(0, 0, 3), 1);
    due("letters", x.has(14), 0);
    x.ticks(1);
    due("HOLDS", x.member(0, 0, 3), 2);
    due("sent at once", x.has(14), 1);
    due("CLOCK every less 1", x.member(0, 0, 4), 0);
    due("at TICK 3", x.log(0, 0), 3);
  }

  static void terms2HolderSendsEvery1And40() {
    GateGroup x = Kit.of("gate a;gate b;group g every 1;group h every 40;member a of g word 255;member b of h word 255;");
    x.ticks(40);
    due("at 0 .. 39, and at 0", x.has(14), 41);
    due("CLOCK", x.member(1, 1, 4), 0);
    x.ticks(1);
    due("at 40, both", x.has(14), 43);
    due("CLOCK", x.member(1, 1, 4), 39);
  }

  static void terms2EventsAreAheadOfLetters() {
    GateGroup x = Kit.of(PAIR, "at 0 down a;");
    x.ticks(1);
    due("no letter", x.has(14), 0);
    due("down at 0", x.log(0, 3), 2);
    GateGroup y = Kit.of(PAIR, "at 0 split a;");
    y.ticks(1);
    due("not read", y.member(0, 1, 4), 2);
  }

  static void terms2EventsOfOneTickAsTheyStand() {
    GateGroup x = Kit.of(PAIR, "at 5 down a;at 5 up a;");
    x.ticks(6);
    due("up", x.has(6), 3);
    due("TAKES", x.group(0, 7), 2);
    GateGroup y = Kit.of(PAIR, "at 5 up a;at 5 down a;");
    y.ticks(6);
    due("down", y.has(6), 2);
    due("TAKES", y.group(0, 7), 1);
  }

  static void terms2EachEventHappens() {
    GateGroup x = Kit.of("gate a;gate b;gate c;link l;link m;group g every 1;group h every 1;member c of g word 9;member c of h word 8;member a of h word 7;",
        "at 0 cut m;at 1 down b;at 2 split c;at 3 word a of h 3;at 4 word c of g 1;at 5 mend m;at 6 up b;at 7 heal;");
    int[][] want = {{7, 2}, {5, 2}, {5, 2}, {5, 2}, {5, 2}, {5, 0}, {7, 0}, {7, 0}};
    for (int t = 0; t < 8; t++) {
      x.ticks(1);
      due("up behind " + t, x.has(6), want[t][0]);
      due("cut behind " + t, x.has(7), want[t][1]);
      due("PART 1 behind " + t, x.has(8), t >= 2 && t < 7 ? 4 : 0);
      due("a of h behind " + t, x.member(1, 0, 0), t >= 3 ? 3 : 7);
      due("c of g behind " + t, x.member(0, 2, 0), t >= 4 ? 1 : 9);
      due("c of h behind " + t, x.member(1, 2, 0), 8);
    }
  }

  static void terms2EventsOfTheFirstAndLastTick() {
    GateGroup x = Kit.of(PAIR, "at 0 cut l;at 9998 down a;at 9999 down b;");
    due("not yet", x.has(7), 0);
    x.ticks(1);
    due("at 0", x.has(7), 1);
    Kit.till(x, 9998);
    due("not yet", x.has(6), 3);
    x.ticks(1);
    due("at 9998", x.has(6), 2);
    due("TICK 9999 never goes by", x.ticks(1), -2);
  }

  static void terms2LettersAreReadInTheSendersPartByThoseUp() {
    GateGroup x = Kit.of("gate a;gate b;gate c;gate d;group g every 5;member a of g word 255;member b of g word 254;member c of g word 254;");
    x.ticks(5);
    x.split(5);
    x.ticks(1);
    due("b in the other PART", x.member(0, 1, 4), 10);
    due("c read it", x.member(0, 2, 4), 15);
    x.down(2, false);
    x.ticks(5);
    due("c is down", x.member(0, 2, 4), 0);
    due("a reads not its own", x.member(0, 0, 3), 2);
  }

  static void terms2HolderGivesUpToAStrongerOneAlone() {
    GateGroup x = Kit.of("gate a;gate b;gate c;group g every 1;member a of g word 6;member b of g word 7;member c of g word 7;");
    x.split(1);
    x.ticks(4);
    due("a, c", x.group(0, 8), 5);
    x.split(0);
    x.ticks(1);
    due("c", x.group(0, 8), 4);
    // b WAITS, reads a's 6, begins to HOLD; then c's letter is read by a, by b
    log(x, 0, 4, 0, 1, 1);
    log(x, 1, 4, 0, 0, 1);
    log(x, 2, 4, 0, 1, 0);
    log(x, 3, 3, 0, 1, 1);
    log(x, 4, 3, 0, 2, 0);
  }

  static void terms2ByTheWordAsItIsNow() {
    GateGroup x = Kit.of("gate a;gate b;link l;group g every 1;member a of g word 9;member b of g word 8;track a of g by l less 2;");
    x.split(1);
    x.ticks(4);
    x.split(0);
    x.cut(0, true);
    x.ticks(1);
    due("a has 7 now", x.group(0, 8), 2);
  }

  static void terms2DelayTicksHaveGoneBy() {
    for (int d : new int[] {0, 1, 2, 98, 99}) {
      GateGroup x = Kit.of("gate a;gate b;group g every 1 delay " + d + ";member a of g word 100;member b of g word 200;");
      x.down(1, false);
      x.ticks(10);
      x.up(1);
      Kit.till(x, 10 + d);
      due("a alone, delay " + d, x.group(0, 8), 1);
      due("WISHES since", x.member(0, 1, 7), d == 0 ? -1 : 10);
      x.ticks(1);
      due("both, delay " + d, x.group(0, 8), 3);
      due("WISHES no more", x.member(0, 1, 7), -1);
      due("CLOCK", x.member(0, 1, 4), 0);
      x.ticks(1);
      due("b alone, delay " + d, x.group(0, 8), 2);
    }
  }

  /** a begins at 144 and sends at 144, 184, 224 ..; b, up at 145, hears it at 184. */
  static void terms2DelayIsLookedAtWithEachLetter() {
    int[][] rows = {{0, 184}, {1, 224}, {40, 224}, {41, 264}, {80, 264}, {81, 304}};
    for (int[] r : rows) {
      GateGroup x = Kit.of("gate a;gate b;group g every 40 delay " + r[0] + ";member a of g word 100;member b of g word 200;");
      x.down(1, false);
      x.ticks(145);
      due("a", x.group(0, 8), 1);
      x.up(1);
      Kit.till(x, r[1]);
      due("a, delay " + r[0], x.group(0, 8), 1);
      x.ticks(1);
      due("both, delay " + r[0], x.group(0, 8), 3);
    }
  }

  static void terms2KeepsNeverTakesBack() {
    GateGroup x = Kit.of("gate a;gate b;group g every 1 keeps;member a of g word 1;member b of g word 254;");
    x.down(1, false);
    x.ticks(10);
    x.up(1);
    x.ticks(500);
    due("a", x.group(0, 8), 1);
    due("b has no WISH", x.member(0, 1, 7), -1);
    due("its CLOCK is PATIENCE", x.member(0, 1, 4), 3);
    x.down(1, false);
    x.word(0, 1, 255);
    x.up(1);
    due("but 255 HOLDS as it comes up", x.group(0, 8), 3);
    x.ticks(1);
    due("and a gives up", x.group(0, 8), 2);
  }

  static void terms2WishEndsByAStrongerLetter() {
    GateGroup x = Kit.of("gate a;gate b;group g every 1 delay 5;member a of g word 100;member b of g word 200;");
    x.down(1, false);
    x.ticks(10);
    x.up(1);
    x.ticks(5);
    due("since 10", x.member(0, 1, 7), 10);
    x.word(0, 0, 201);
    x.ticks(1);
    due("no more", x.member(0, 1, 7), -1);
    x.word(0, 0, 200);
    x.ticks(1);
    due("anew, of like words", x.member(0, 1, 7), 16);
    x.ticks(4);
    due("a alone", x.group(0, 8), 1);
    x.ticks(1);
    due("both", x.group(0, 8), 3);
  }

  static void terms2ReaderThatGaveUpReadsOnAsOneThatWaits() {
    // a HOLDS with 5, reads b's 9, gives up, and reads c's 1 as one that WAITS: delay 0, it begins to HOLD again
    GateGroup x = Kit.of("gate a;gate b;gate c;group g every 1;member a of g word 255;member b of g word 255;member c of g word 255;");
    x.word(0, 0, 5);
    x.word(0, 1, 9);
    x.word(0, 2, 1);
    x.ticks(1);
    due("a, b", x.group(0, 8), 3);
    log(x, 0, 0, 0, 0, 0);
    log(x, 1, 0, 0, 0, 1);
    log(x, 2, 0, 0, 2, 1);
    log(x, 3, 0, 0, 2, 0);
    due("THE LOG", x.has(12), 6);
  }

  // ---- Terms II: letters of WORD 0

  static void terms2LetterOfWord0IsSkewAnd1AtLeast() {
    int[][] rows = {{254, 1}, {249, 1}, {243, 2}, {100, 24}, {1, 39}};
    for (int[] r : rows) {
      GateGroup x = Kit.of("gate a;gate b;group g every 40;member a of g word 255;member b of g word " + r[0] + ";");
      x.ticks(1);
      x.down(0, true);
      due("CLOCK of word " + r[0], x.member(0, 1, 4), r[1]);
      x.ticks(r[1]);
      due("WAITS", x.group(0, 8), 0);
      x.ticks(1);
      due("HOLDS", x.group(0, 8), 2);
    }
  }

  static void terms2LetterOfWord0IfBelowTheClock() {
    // PATIENCE 120 and 24, SKEW 24: read at TICK 0, then alone
    for (int clock : new int[] {26, 25, 24, 23, 1, 0}) {
      GateGroup x = Kit.of("gate a;gate b;group g every 40;member a of g word 255;member b of g word 100;");
      x.ticks(1);
      x.split(1);
      Kit.till(x, 1 + 144 - clock);
      due("CLOCK", x.member(0, 1, 4), clock);
      x.split(0);
      x.down(0, true);
      due("CLOCK of " + clock, x.member(0, 1, 4), Math.min(clock, 24));
      x.ticks(Math.min(clock, 24));
      due("WAITS", x.group(0, 8), 0);
      x.ticks(1);
      due("HOLDS", x.group(0, 8), 2);
    }
  }

  static void terms2LetterOfWord0AtAClockOf0() {
    GateGroup x = Kit.of(PAIR);
    x.ticks(1);
    x.split(1);
    x.ticks(3);
    due("CLOCK", x.member(0, 1, 4), 0);
    x.split(0);
    x.down(0, true);
    due("stays", x.member(0, 1, 4), 0);
    x.ticks(1);
    due("HOLDS", x.group(0, 8), 2);
  }

  static void terms2OneThatHoldsReadsNothingOfWord0() {
    // b, alone in its PART, begins at 27 and sends: its CLOCK is 8, its SKEW 0
    GateGroup x = Kit.of("gate a;gate b;group g every 9;member a of g word 255;member b of g word 254;");
    x.split(1);
    x.ticks(28);
    x.split(0);
    due("both", x.group(0, 8), 3);
    due("CLOCK", x.member(0, 1, 4), 8);
    due("HELD", x.down(0, true), 1);
    due("CLOCK", x.member(0, 1, 4), 8);
    due("HOLDS", x.member(0, 1, 3), 2);
  }

  static void terms2LetterOfWord0IsReadByAll() {
    for (int sender = 0; sender < 6; sender++) {
      String net = EdgeTextTest.GATES + "group g every 40;" + EdgeTextTest.members(1).replace("member " + (char) ('a' + sender) + " of g word 1;", "member " + (char) ('a' + sender) + " of g word 255;");
      GateGroup x = Kit.of(net);
      x.ticks(1);
      x.down(sender, true);
      for (int k = 0; k < 6; k++) due("CLOCK of " + k, x.member(0, k, 4), k == sender ? 0 : 39);
    }
  }

  static void terms2GentleLettersAreNeverLost() {
    GateGroup x = Kit.of("gate a;gate b;gate c;group g every 9;member a of g word 255;member b of g word 100;member c of g word 100;");
    x.ticks(1);
    x.chance(99, 12);
    x.down(0, true);
    due("x", x.has(10), 12);
    due("LOST", x.has(15), 0);
    due("b", x.member(0, 1, 4), 5);
    due("c", x.member(0, 2, 4), 5);
    due("one letter, read by two", x.has(14), 2);
  }

  static void terms2GentlyInItsPartByThoseUp() {
    GateGroup x = Kit.of("gate a;gate b;gate c;gate d;group g every 9;member a of g word 255;member b of g word 100;member c of g word 100;member d of g word 100;");
    x.ticks(1);
    x.split(5);
    x.down(2, false);
    x.down(0, true);
    due("b", x.member(0, 1, 4), 32);
    due("c is down", x.member(0, 2, 4), 0);
    due("d", x.member(0, 3, 4), 32);
    due("a letter that nobody reads", x.has(14), 2);
  }

  static void terms2GentlyOfEachGroupThatItHolds() {
    GateGroup x = Kit.of("gate a;gate b;group g every 9;group h every 9;group i every 9;member a of g word 255;member b of g word 100;member a of h word 1;member b of h word 255;"
        + "member a of i word 255;member b of i word 1;");
    x.ticks(1);
    due("HELD", x.down(0, true), 2);
    due("letters", x.has(14), 5);
    due("g", x.member(0, 1, 4), 5);
    due("h is b's", x.group(1, 8), 2);
    due("i", x.member(2, 1, 4), 8);
  }

  static void terms2GateThatGoesDownForgets() {
    for (int way = 0; way < 3; way++) {
      GateGroup x = Kit.of("gate a;gate b;group g every 2 delay 50;group h every 2;member a of g word 9;member b of g word 255;member b of h word 255;");
      x.ticks(1);
      x.word(0, 1, 1);
      x.ticks(2);
      due("WISHES", x.member(0, 0, 7), 2);
      if (way == 2) { Kit.plan(x, "at 3 down a;at 3 down b;"); x.ticks(1); } else { x.down(0, way == 1); x.down(1, way == 1); }
      for (int w : new int[] {3, 4}) { due("a", x.member(0, 0, w), 0); due("b", x.member(0, 1, w), 0); due("b of h", x.member(1, 1, w), 0); }
      due("WISHES no more", x.member(0, 0, 7), -1);
      due("nobody", x.group(0, 8), 0);
      due("THE LOG", x.log(0, 3), 2);
      due("twice", x.log(1, 3), 2);
    }
  }

  static void terms2SplitAndHealNothingMore() {
    GateGroup x = Kit.of(PAIR);
    x.ticks(10);
    int[] before = Kit.picture(x);
    x.split(2);
    int[] after = Kit.picture(x);
    for (int i = 0; i < before.length; i++) due("number " + i, after[i], i == 8 ? 2 : before[i]);
    x.split(0);
    Kit.same("healed", Kit.picture(x), before);
  }

  // ---- Terms II: DRAWS

  /** One letter with one reader: x becomes 12345 by seed 0, 192 by 64, 92: not below 92. */
  static void terms2LetterIsLostBelowChanceAlone() {
    long[][] rows = {{92, 0, 12345, 0}, {93, 0, 12345, 1}, {91, 0, 12345, 0}, {99, 0, 12345, 1}, {18, 1, 1103527590, 0}, {19, 1, 1103527590, 1},
        {99, MOST, 1043980748, 0}, {1, MOST, 1043980748, 0}};
    for (long[] r : rows) {
      GateGroup x = Kit.of("gate a;gate b;group g every 9;member a of g word 255;member b of g word 100;");
      due("chance", x.chance((int) r[0], (int) r[1]), 1);
      x.ticks(1);
      due("x from " + r[1], x.has(10), r[2]);
      due("LOST by chance " + r[0], x.has(15), r[3]);
      due("CLOCK", x.member(0, 1, 4), r[3] == 1 ? 31 : 32);
    }
  }

  static void terms2ChanceIs0AtFirstAndMakesNoDraw() {
    GateGroup x = Kit.of(PAIR);
    due("chance", x.has(9), 0);
    due("x", x.has(10), 1);
    x.ticks(300);
    due("no DRAW", x.has(10), 1);
    due("none LOST", x.has(15), 0);
    x.chance(0, 77);
    x.ticks(300);
    due("no DRAW", x.has(10), 77);
  }

  static void terms2DrawForEachReaderThatIsUpInThePart() {
    GateGroup x = Kit.of("gate a;gate b;gate c;gate d;gate e;group g every 1;member a of g word 255;member b of g word 1;member c of g word 1;member d of g word 1;");
    x.down(3, false);
    x.split(4);
    x.chance(1, 0);
    x.ticks(1);
    due("b alone", x.has(10), 12345);
    GateGroup y = Kit.of("gate a;group g every 1;member a of g word 255;");
    y.chance(99, 5);
    y.ticks(100);
    due("no reader, no DRAW", y.has(10), 5);
    due("letters", y.has(14), 100);
  }

  // ---- Terms II: what is counted

  static void terms2GapsWhileAMemberIsUp() {
    GateGroup x = Kit.of("gate a;gate b;group g every 1;group h every 1;member a of g word 254;");
    x.ticks(10);
    due("behind 0, 1, 2", x.group(0, 5), 3);
    due("no MEMBERS", x.group(1, 5), 0);
    x.down(0, false);
    x.ticks(10);
    due("no MEMBER is up, though a GATE is", x.group(0, 5), 3);
    x.up(0);
    x.ticks(3);
    due("anew", x.group(0, 5), 6);
    x.ticks(1);
    due("no more", x.group(0, 5), 6);
  }

  static void terms2DoublesInSomePart() {
    String net = "gate a;gate b;gate c;gate d;group g every 40;member a of g word 255;member b of g word 255;member c of g word 255;member d of g word 255;";
    GateGroup x = Kit.of(net);
    due("all four", x.group(0, 8), 15);
    due("not ahead of a TICK", x.group(0, 6), 0);
    x.split(3);
    x.ticks(1);
    due("one in each PART", x.group(0, 8), 10);
    due("not DOUBLE", x.group(0, 6), 0);
    // a and d sent at 0 and send at 40 again; b and c send a word of 1, which makes nobody give up
    for (int part : new int[] {3, 0, 4}) {
      GateGroup y = Kit.of(net);
      y.down(1, false);
      y.down(2, false);
      y.split(1);
      y.ticks(1);
      y.up(1);
      y.up(2);
      y.word(0, 1, 1);
      y.word(0, 2, 1);
      y.split(part);
      y.ticks(39);
      due("each TICK once, in one PART or both", y.group(0, 6), 39);
      y.ticks(1);
      due("no more", y.group(0, 6), 39);
    }
  }

  static void terms2TakesCountEachBeginning() {
    GateGroup x = Kit.of("gate a;gate b;group g every 1;member a of g word 255;member b of g word 255;");
    due("at TICK 0", x.group(0, 7), 2);
    for (int i = 0; i < 5; i++) { x.down(0, false); x.up(0); }
    due("as its GATE comes up", x.group(0, 7), 7);
    GateGroup y = Kit.of("gate a;group g every 1;member a of g word 254;");
    y.ticks(4);
    due("as its CLOCK runs out", y.group(0, 7), 1);
  }

  // ---- promises 7 to 9

  static void promise07NoneForOthersAndWithoutANet() {
    GateGroup x = Kit.of(PAIR);
    for (int what : new int[] {-1, 16, 17, LEAST, MOST}) due("has(" + what + ")", x.has(what), -1);
    for (int what = -1; what < 17; what++) due("no NET", new GateGroup().has(what), -1);
  }

  static void promise07EmptyNet() {
    GateGroup x = Kit.of("");
    for (int what = 0; what < 16; what++) due("has(" + what + ")", x.has(what), what == 10 ? 1 : 0);
  }

  static void promise07FullNet() {
    GateGroup x = Kit.of(EdgeTextTest.GATES + EdgeTextTest.LINKS + EdgeTextTest.GROUPS + EdgeTextTest.members(5) + EdgeTextTest.tracks(11));
    int[] want = {6, 8, 5, 30, 11, 0, 63, 0};
    for (int what = 0; what < 8; what++) due("has(" + what + ")", x.has(what), want[what]);
    for (int k = 0; k < 8; k++) x.cut(k, true);
    due("cut", x.has(7), 255);
    for (int k = 0; k < 6; k++) x.down(k, false);
    due("none is up", x.has(6), 0);
    due("ACTS", x.has(13), 12);
  }

  static void promise07LettersEachOnce() {
    GateGroup x = Kit.of(EdgeTextTest.GATES + "group g every 1;" + EdgeTextTest.members(1).replace("member f of g word 1", "member f of g word 255"));
    x.ticks(1);
    due("read by five, counted once", x.has(14), 1);
    x.down(5, true);
    due("of WORD 0, too", x.has(14), 2);
    x.down(4, true);
    due("not of one that WAITS", x.has(14), 2);
  }

  static void promise07LostForEachReader() {
    GateGroup x = Kit.of(EdgeTextTest.GATES + "group g every 1;" + EdgeTextTest.members(1).replace("member f of g word 1", "member f of g word 255"));
    x.chance(99, 0);
    x.ticks(1);
    long seed = 0;
    int lost = 0;
    for (int i = 0; i < 5; i++) { seed = (1103515245L * seed + 12345) % (1L << 31); lost += seed / 64 % 100 < 99 ? 1 : 0; }
    due("LOST", x.has(15), lost);
    due("x", x.has(10), seed);
  }

  static void promise08NoneSuchAndOthers() {
    GateGroup x = Kit.of(PAIR);
    for (int g : new int[] {-1, 1, 5, LEAST, MOST}) for (int w = 0; w < 9; w++) due("GROUP " + g, x.group(g, w), -1);
    for (int w : new int[] {-1, 9, LEAST, MOST}) due("what " + w, x.group(0, w), -1);
    GateGroup all = Kit.of(EdgeTextTest.GROUPS);
    due("the fifth", all.group(4, 0), 1);
    due("no sixth", all.group(5, 0), -1);
    due("no MEMBERS", all.group(4, 4), 0);
  }

  static void promise09NoneSuchAndOthers() {
    GateGroup x = Kit.of(PAIR + "gate c;group h every 1;");
    int[][] none = {{-1, 0}, {2, 0}, {0, -1}, {0, 2}, {0, 3}, {0, 6}, {1, 0}, {LEAST, 0}, {MOST, 0}, {0, LEAST}, {0, MOST}};
    for (int[] n : none) for (int w = 0; w < 8; w++) due("member(" + n[0] + ", " + n[1] + ")", x.member(n[0], n[1], w), -1);
    for (int w : new int[] {-1, 8, LEAST, MOST}) due("what " + w, x.member(0, 0, w), -1);
  }

  static void promise09OneThatIsDown() {
    GateGroup x = Kit.of("gate a;link l;group g every 40;member a of g word 200 share 7;track a of g by l less 100;");
    x.down(0, false);
    x.cut(0, true);
    int[] want = {200, 100, 7, 0, 0, 24, 144, -1};
    for (int w = 0; w < 8; w++) due("what " + w, x.member(0, 0, w), want[w]);
  }

  // ---- promises 13 to 19

  static void promise13From1To500() {
    GateGroup x = Kit.of(PAIR);
    due("1", x.ticks(1), 1);
    due("500", x.ticks(500), 501);
    int[] before = Kit.picture(x);
    for (int n : new int[] {0, -1, 501, LEAST, MOST}) due("ticks(" + n + ")", x.ticks(n), -2);
    unchanged(x, before, 2);
  }

  static void promise13NotBeyond9999() {
    GateGroup x = Kit.of(PAIR);
    Kit.till(x, 9500);
    int[] before = Kit.picture(x);
    due("to 10000", x.ticks(500), -2);
    unchanged(x, before, 12);
    due("to 9999", x.ticks(499), 9999);
    due("one more", x.ticks(1), -2);
    due("TICK", x.has(5), 9999);
    due("letters of 9999 TICKS", x.has(14), 9999);
  }

  static void promise13AtOnceOrOneByOne() {
    String net = "gate a;gate b;gate c;group g every 3 delay 5;member a of g word 20;member b of g word 90;member c of g word 200;";
    String plan = "at 7 down c;at 20 up c;at 20 split a;at 60 heal;at 61 word a of g 255;";
    GateGroup x = Kit.of(net, plan);
    GateGroup y = Kit.of(net, plan);
    x.chance(30, 3);
    y.chance(30, 3);
    x.ticks(150);
    for (int i = 0; i < 150; i++) y.ticks(1);
    Kit.same("alike", Kit.picture(x), Kit.picture(y));
  }

  static void promise14NoneSuchAndUpAlready() {
    GateGroup x = Kit.of(PAIR);
    x.down(1, false);
    int[] before = Kit.picture(x);
    for (int k : new int[] {-1, 2, 5, 6, 32, LEAST, MOST}) due("up(" + k + ")", x.up(k), -2);
    due("it is up", x.up(0), -3);
    unchanged(x, before, 1);
    due("up", x.up(1), 1);
    due("it is up", x.up(1), -3);
    due("ACTS", x.has(13), 2);
  }

  static void promise15NoneSuchAndDownAlready() {
    GateGroup x = Kit.of(PAIR);
    due("WAITS", x.down(1, true), 0);
    int[] before = Kit.picture(x);
    for (int k : new int[] {-1, 2, 5, 6, 32, LEAST, MOST}) { due("down(" + k + ")", x.down(k, true), -2); due("down(" + k + ")", x.down(k, false), -2); }
    due("it is down", x.down(1, true), -3);
    due("it is down", x.down(1, false), -3);
    unchanged(x, before, 1);
    due("HOLDS one", x.down(0, false), 1);
  }

  static void promise15OfHowManyGroups() {
    String net = EdgeTextTest.GATES + EdgeTextTest.GROUPS + EdgeTextTest.members(5).replaceAll("member f of (.) word 1;", "member f of $1 word 255;");
    GateGroup x = Kit.of(net);
    x.ticks(1);
    due("none", x.down(0, true), 0);
    due("all five", x.down(5, true), 5);
    GateGroup y = Kit.of("gate a;");
    due("of no GROUP", y.down(0, true), 0);
  }

  static void promise16NoneSuchAndSoAlready() {
    GateGroup x = Kit.of(EdgeTextTest.LINKS);
    int[] before = Kit.picture(x);
    for (int k : new int[] {-1, 8, 32, LEAST, MOST}) { due("cut(" + k + ")", x.cut(k, true), -2); due("mend(" + k + ")", x.cut(k, false), -2); }
    due("it is whole", x.cut(7, false), -3);
    unchanged(x, before, 0);
    due("cut", x.cut(7, true), 1);
    due("it is cut", x.cut(7, true), -3);
    due("mended", x.cut(7, false), 1);
    due("ACTS", x.has(13), 2);
    due("no LINKS", Kit.of("gate a;").cut(0, true), -2);
  }

  static void promise17NoSuchBits() {
    GateGroup x = Kit.of("gate a;gate b;gate c;");
    int[] before = Kit.picture(x);
    for (int bits : new int[] {-1, 8, 9, 15, 64, 1 << 30, LEAST, MOST}) due("split(" + bits + ")", x.split(bits), -2);
    unchanged(x, before, 0);
  }

  static void promise17PartThatIsEmptyOrHasAll() {
    GateGroup x = Kit.of("gate a;gate b;gate c;group g every 1;member a of g word 255;member b of g word 255;");
    due("it is one PART", x.split(0), -3);
    due("all GATES", x.split(7), 1);
    due("PART 1", x.has(8), 7);
    due("all beside one another", x.holder(0, 2), 1);
    due("DOUBLE", x.doubles(), 1);
    x.ticks(1);
    due("letters are read", x.group(0, 8), 2);
    due("it is so", x.split(7), -3);
    due("healed", x.split(0), 1);
    due("PART 1", x.has(8), 0);
    due("it is one PART", x.split(0), -3);
  }

  static void promise17ItIsSo() {
    GateGroup x = Kit.of("gate a;gate b;gate c;");
    due("split", x.split(5), 1);
    int[] before = Kit.picture(x);
    due("it is so", x.split(5), -3);
    unchanged(x, before, 1);
    due("the other PART is PART 1", x.split(2), 1);
    due("PART 1", x.has(8), 2);
    GateGroup none = Kit.of("link l;");
    due("no GATES", none.split(0), -3);
    due("no GATES", none.split(1), -2);
  }

  static void promise18From1To255() {
    GateGroup x = Kit.of(PAIR + "gate c;group h every 1;");
    int[] before = Kit.picture(x);
    for (int v : new int[] {0, -1, 256, LEAST, MOST}) due("word " + v, x.word(0, 0, v), -2);
    int[][] none = {{-1, 0}, {2, 0}, {0, -1}, {0, 2}, {0, 3}, {1, 0}, {LEAST, 0}, {0, MOST}};
    for (int[] n : none) due("word(" + n[0] + ", " + n[1] + ")", x.word(n[0], n[1], 9), -2);
    unchanged(x, before, 0);
    due("1", x.word(0, 0, 1), 255);
    due("255", x.word(0, 0, 255), 1);
    due("the same is done, too", x.word(0, 0, 255), 255);
    due("ACTS", x.has(13), 3);
  }

  static void promise18AsToldLatest() {
    GateGroup x = Kit.of("gate a;link l;group g every 1;member a of g word 100;track a of g by l less 50;", "at 0 word a of g 70;");
    x.cut(0, true);
    due("not what TRACKS leave", x.word(0, 0, 90), 100);
    x.ticks(1);
    due("by an EVENT", x.word(0, 0, 91), 70);
    x.down(0, false);
    due("down", x.word(0, 0, 92), 91);
  }

  static void promise19ChanceFrom0To99() {
    GateGroup x = Kit.of(PAIR);
    int[] before = Kit.picture(x);
    for (int v : new int[] {-1, 100, LEAST, MOST}) due("chance " + v, x.chance(v, 5), -2);
    for (int s : new int[] {-1, LEAST}) due("seed " + s, x.chance(5, s), -2);
    unchanged(x, before, 0);
    due("99", x.chance(99, 0), 1);
    due("chance", x.has(9), 99);
    due("seed 0", x.has(10), 0);
    due("0", x.chance(0, MOST), 1);
    due("chance", x.has(9), 0);
    due("the greatest seed", x.has(10), MOST);
    due("the same is done, too", x.chance(0, MOST), 1);
    due("ACTS", x.has(13), 3);
  }

  static void promise19GreatestSeedWrapsAround() {
    GateGroup x = Kit.of(PAIR);
    x.chance(1, MOST);
    long seed = MOST;
    for (int i = 0; i < 200; i++) {
      int sent = x.has(14);
      x.ticks(1);
      for (int k = sent; k < x.has(14); k++) seed = (1103515245L * seed + 12345) % (1L << 31);
      due("x", x.has(10), seed);
    }
  }

  // ---- promises 20 to 23

  static void promise20NobodyAndNoneSuch() {
    GateGroup x = Kit.of(PAIR + "gate c;group h every 1;");
    for (int[] n : new int[][] {{-1, 0}, {2, 0}, {0, -1}, {0, 3}, {0, 6}, {LEAST, 0}, {MOST, 0}, {0, LEAST}, {0, MOST}}) due("none such", x.holder(n[0], n[1]), -1);
    due("in the PART of one that is no MEMBER", x.holder(0, 2), 0);
    due("no MEMBERS", x.holder(1, 0), -1);
    x.split(4);
    due("nobody there", x.holder(0, 2), -1);
    due("a", x.holder(0, 1), 0);
    x.split(0);
    x.down(0, false);
    due("nobody", x.holder(0, 0), -1);
  }

  static void promise20StrongestIfDouble() {
    GateGroup x = Kit.of("gate a;gate b;gate c;link l;group g every 9;member a of g word 255;member b of g word 255;member c of g word 255;track c of g by l less 100;");
    due("of like ones the greater", x.holder(0, 0), 2);
    x.word(0, 2, 254);
    due("by WORD", x.holder(0, 0), 1);
    x.word(0, 1, 200);
    x.word(0, 0, 200);
    due("c", x.holder(0, 0), 2);
    x.cut(0, true);
    due("by WORD now", x.holder(0, 0), 1);
    x.split(2);
    due("in its PART", x.holder(0, 0), 0);
    due("in its PART", x.holder(0, 1), 1);
  }

  static void promise21DoubleInSomePart() {
    GateGroup x = Kit.of("gate a;gate b;gate c;group g every 9;group h every 9;member a of g word 255;member b of g word 255;member c of g word 255;member a of h word 255;");
    due("g alone", x.doubles(), 1);
    x.split(1);
    due("b, c in PART 0", x.doubles(), 1);
    x.split(6);
    due("b, c in PART 1", x.doubles(), 1);
    x.down(2, false);
    due("one in each", x.doubles(), 0);
    due("without a NET", new GateGroup().doubles(), -1);
    due("no GROUPS", Kit.of("gate a;").doubles(), 0);
  }

  static void promise22NobodyThoughAMemberIsUp() {
    GateGroup x = Kit.of("gate a;gate b;group g every 9;group h every 9;group i every 9;member a of g word 254;member b of h word 255;");
    due("g", x.orphans(), 1);
    x.down(0, false);
    due("no MEMBER is up", x.orphans(), 0);
    x.down(1, false);
    x.word(1, 1, 1);
    x.up(1);
    due("h", x.orphans(), 2);
    due("without a NET", new GateGroup().orphans(), -1);
    due("no GROUPS", Kit.of("gate a;").orphans(), 0);
  }

  static void promise22HeldInAnotherPartIsHeld() {
    GateGroup x = Kit.of("gate a;gate b;group g every 9;member a of g word 255;member b of g word 1;");
    x.split(1);
    due("b's PART has nobody, the GROUP has", x.orphans(), 0);
  }

  static void promise23NoneSuch() {
    GateGroup x = Kit.of(PAIR + "gate c;");
    due("a", x.holds(0), 1);
    due("WAITS", x.holds(1), 0);
    due("no MEMBER", x.holds(2), 0);
    for (int k : new int[] {-1, 3, 6, LEAST, MOST}) due("holds(" + k + ")", x.holds(k), -1);
    x.down(0, false);
    due("down", x.holds(0), 0);
    due("without a NET", new GateGroup().holds(0), -1);
    GateGroup all = Kit.of(EdgeTextTest.GATES + EdgeTextTest.GROUPS + EdgeTextTest.members(5).replaceAll("member f of (.) word 1;", "member f of $1 word 255;"));
    due("all five", all.holds(5), 31);
  }
}
