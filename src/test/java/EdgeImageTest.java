/** A test for each sentence of Terms III on THE LOG and ACTS and of promises 40 to 43 that names an edge. */
public final class EdgeImageTest {
  static final int LEAST = Integer.MIN_VALUE;
  static final int MOST = Integer.MAX_VALUE;
  static final String NET = "gate a;gate b;gate c;link l;link m;group g every 2 delay 9;group h every 3;member a of g word 255;member b of g word 200;member c of h word 255;"
      + "member a of h word 10;track b of g by l less 50;";
  static final String PLAN = "at 20 down c;at 30 up c;at 200 cut m;";

  public static void main(String[] args) throws Exception {
    Kit.runEach(EdgeImageTest.class, "terms3", "promise40", "promise41", "promise42", "promise43");
  }

  static void due(String call, long got, long want) { Kit.due(call, got, want); }

  /** One with WISHES, GAPS, letters that are LOST, a cut LINK and a PLAN that goes on. */
  static GateGroup busy() {
    GateGroup x = Kit.of(NET, PLAN);
    x.chance(30, 5);
    x.ticks(25);
    x.word(0, 0, 1);
    x.cut(1, true);
    x.split(4);
    x.ticks(2);
    return x;
  }

  // ---- Terms III: THE LOG, promise 40

  static void terms3LogOf60Changes() {
    for (int n : new int[] {59, 60, 61, 119, 120, 121}) {
      GateGroup x = Kit.of("gate a;group g every 1;member a of g word 255;");
      for (int i = 1; i < n; i++) if (i % 2 == 1) x.down(0, false); else x.up(0);
      int kept = Math.min(n, 60);
      due("changes of " + n, x.has(12), kept);
      for (int i = 0; i < kept; i++) due("log(" + i + ", 3) of " + n, x.log(i, 3), (n - 1 - i) % 2 == 0 ? 0 : 2);
      due("none behind them", x.log(kept, 3), -1);
    }
  }

  static void terms3LogTellsTheThreeChanges() {
    GateGroup x = Kit.of("gate a;gate b;group g every 1;group h every 1;member a of h word 255;member b of h word 255;");
    x.ticks(7);
    x.down(1, true);
    int[][] want = {{7, 1, 1, 2}, {0, 1, 0, 1}, {0, 1, 1, 0}, {0, 1, 0, 0}};
    for (int i = 0; i < 4; i++) for (int w = 0; w < 4; w++) due("log(" + i + ", " + w + ")", x.log(i, w), want[i][w]);
    x.down(0, false);
    due("one that WAITS goes down untold", x.has(12), 4);
  }

  static void promise40NoneSuchAndOthers() {
    GateGroup x = Kit.of("gate a;group g every 1;member a of g word 255;");
    due("the one", x.log(0, 3), 0);
    for (int i : new int[] {-1, 1, 59, 60, LEAST, MOST}) for (int w = 0; w < 4; w++) due("log(" + i + ")", x.log(i, w), -1);
    for (int w : new int[] {-1, 4, LEAST, MOST}) due("what " + w, x.log(0, w), -1);
    due("none at all", Kit.of("gate a;").log(0, 0), -1);
    due("without a NET", new GateGroup().log(0, 0), -1);
  }

  static void promise40WhenItIsFull() {
    GateGroup x = Kit.of("gate a;group g every 1;member a of g word 255;");
    for (int i = 0; i < 40; i++) { x.down(0, false); x.up(0); x.ticks(1); }
    due("60", x.has(12), 60);
    for (int i = 0; i < 60; i++) due("TICK of " + i, x.log(i, 0), 39 - i / 2);
    for (int i : new int[] {60, 61, 79, 80, 120}) due("log(" + i + ")", x.log(i, 0), -1);
  }

  static void promise40FullAndUndone() {
    GateGroup x = Kit.of("gate a;group g every 1;member a of g word 255;");
    for (int i = 0; i < 40; i++) { x.ticks(1); x.down(0, false); x.up(0); }
    int[] before = Kit.picture(x);
    for (int i = 0; i < 6; i++) { x.down(0, false); x.up(0); }
    for (int i = 11; i >= 0; i--) due("undo", x.undo(), i);
    Kit.same("the oldest are there again", Kit.picture(x), before);
  }

  // ---- ACTS, promise 41

  static int act(GateGroup x, int which) {
    switch (which) {
      case 0: return Kit.plan(x, "at 40 down a;at 41 down b;");
      case 1: return x.ticks(1);
      case 2: return x.ticks(500);
      case 3: return x.down(0, true);
      case 4: return x.down(1, false);
      case 5: return x.cut(0, true);
      case 6: return x.cut(1, false);
      case 7: return x.split(2);
      case 8: return x.split(0);
      case 9: return x.word(0, 1, 255);
      case 10: return x.word(0, 1, x.member(0, 1, 0));
      case 11: return x.chance(99, MOST);
      case 12: return Kit.plan(x, "");
      case 13: return x.split(7);
      default: return x.up(2);
    }
  }

  static void terms3EachActCanBeUndone() {
    for (int which = 0; which < 15; which++) {
      GateGroup x = busy();
      int[] before = Kit.picture(x);
      due("ACTS", x.has(13), 7);
      Kit.due("act " + which + " is done", act(x, which) >= 0, true);
      due("ACTS behind act " + which, x.has(13), 8);
      due("undo of act " + which, x.undo(), 7);
      Kit.same("as it was ahead of act " + which, Kit.picture(x), before);
      due("ACTS", x.has(13), 7);
    }
  }

  static void terms3ItGoesOnAsIfTheActHadNotBeen() {
    GateGroup plain = busy();
    plain.ticks(300);
    int[] want = Kit.picture(plain);
    for (int which = 0; which < 15; which++) {
      GateGroup x = busy();
      act(x, which);
      x.undo();
      x.ticks(300);
      Kit.same("behind act " + which, Kit.picture(x), want);
    }
  }

  static void terms3WhatIsRefusedIsNoAct() {
    GateGroup x = busy();
    int[] before = Kit.picture(x);
    int[] unfit = {x.ticks(0), x.ticks(501), x.up(-1), x.up(3), x.down(3, true), x.cut(2, true), x.cut(-1, false), x.split(8), x.split(-1), x.word(0, 2, 1), x.word(0, 0, 0),
        x.word(0, 0, 256), x.chance(100, 0), x.chance(0, -1), x.keep(2), x.keep(-1), x.back(2)};
    for (int i = 0; i < unfit.length; i++) due("-2, call " + i, unfit[i], -2);
    int[] undue = {x.up(0), x.down(2, false), x.cut(1, true), x.cut(0, false), x.split(4), x.back(0)};
    for (int i = 0; i < undue.length; i++) due("-3, call " + i, undue[i], -3);
    due("a FAULT", Kit.plan(x, "at 1"), -1);
    due("a FAULT", Kit.net(x, "gate"), -1);
    Kit.same("as it was", Kit.picture(x), before);
    due("ACTS", x.has(13), 7);
  }

  static void promise41LastTwelve() {
    GateGroup x = Kit.of(NET);
    for (int i = 1; i <= 13; i++) { x.ticks(1); due("ACTS", x.has(13), Math.min(i, 12)); }
    for (int i = 11; i >= 0; i--) due("undo", x.undo(), i);
    due("TICK", x.has(5), 1);
    due("the 13th can't be", x.undo(), -3);
    due("TICK", x.has(5), 1);
  }

  static void promise41TwelveAndTwelveMore() {
    GateGroup x = Kit.of(NET);
    for (int round = 0; round < 3; round++) {
      for (int i = 0; i < 30; i++) x.ticks(1);
      for (int i = 11; i >= 0; i--) { due("undo", x.undo(), i); due("TICK", x.has(5), 18 * (round + 1) + i); }
      due("none can be", x.undo(), -3);
    }
  }

  static void promise41NoneCanBe() {
    due("no NET", new GateGroup().undo(), -2);
    GateGroup bad = new GateGroup();
    Kit.net(bad, "gate");
    due("no NET by a FAULT", bad.undo(), -2);
    GateGroup x = Kit.of(NET);
    due("no ACT", x.undo(), -3);
    x.keep(0);
    due("keep is none", x.undo(), -3);
    x.ticks(5);
    due("the one", x.undo(), 0);
    due("none is left", x.undo(), -3);
    due("TICK", x.has(5), 0);
  }

  static void promise41UndoIsNoAct() {
    GateGroup x = Kit.of(NET);
    x.ticks(5);
    x.ticks(6);
    due("1", x.undo(), 1);
    due("0, not back to 11", x.undo(), 0);
    due("TICK", x.has(5), 0);
  }

  static void promise41TapeAndFaultStay() {
    GateGroup x = Kit.of(NET);
    x.ticks(1);
    Kit.plan(x, "at 1 up z;");
    x.feed(0x61742031, 0x20686561, 0x6c3b2020, 0x20202020, 0x20202020);
    x.undo();
    due("FAULT", x.fault(0), 3);
    due("the tape", x.plan(), 1);
  }

  // ---- images

  static void promise42UnderTwoNumbers() {
    GateGroup x = Kit.of(NET);
    due("0", x.keep(0), 0);
    x.ticks(7);
    due("1", x.keep(1), 7);
    for (int k : new int[] {-1, 2, 3, LEAST, MOST}) due("keep(" + k + ")", x.keep(k), -2);
    due("no ACT", x.has(13), 1);
    due("no NET", new GateGroup().keep(0), -2);
    due("0", x.back(0), 0);
    due("1", x.back(1), 7);
  }

  static void promise42KeptAnew() {
    GateGroup x = Kit.of(NET);
    x.ticks(1);
    x.keep(0);
    x.ticks(1);
    due("in place of it", x.keep(0), 2);
    x.ticks(1);
    due("back", x.back(0), 2);
  }

  static void promise42AtTick9999() {
    GateGroup x = Kit.till(Kit.of(NET), 9999);
    due("keep", x.keep(1), 9999);
    due("back", x.back(1), 9999);
  }

  static void promise43AllThatIsAsItWasKept() {
    GateGroup x = busy();
    int[] before = Kit.picture(x);
    x.keep(1);
    for (int which = 0; which < 15; which++) {
      act(x, which);
      due("back behind act " + which, x.back(1), 27);
      Kit.same("as it was kept, behind act " + which, Kit.picture(x), before);
      due("nothing can be undone", x.has(13), 0);
      due("nothing can be undone", x.undo(), -3);
    }
    x.ticks(1);
    due("but what comes", x.undo(), 0);
    GateGroup plain = busy();
    plain.ticks(300);
    x.back(1);
    x.ticks(300);
    Kit.same("it goes on so", Kit.picture(x), Kit.picture(plain));
  }

  static void promise43NothingWasKept() {
    GateGroup x = Kit.of(NET);
    x.ticks(3);
    due("0", x.back(0), -3);
    due("1", x.back(1), -3);
    due("ACTS stay", x.has(13), 1);
    x.keep(1);
    due("0 still", x.back(0), -3);
    for (int k : new int[] {-1, 2, LEAST, MOST}) due("back(" + k + ")", x.back(k), -2);
    due("no NET", new GateGroup().back(0), -2);
    due("ACTS stay", x.has(13), 1);
  }

  static void promise43ImagesOutliveUndoAndBack() {
    GateGroup x = Kit.of(NET);
    x.ticks(5);
    x.keep(0);
    due("undone to 0", x.undo(), 0);
    due("TICK", x.has(5), 0);
    due("back", x.back(0), 5);
    due("again", x.back(0), 5);
    x.ticks(1);
    x.keep(1);
    due("0", x.back(0), 5);
    due("1", x.back(1), 6);
  }

  static void promise43ImagesAreGoneWithANewNet() {
    GateGroup x = Kit.of(NET);
    x.ticks(5);
    x.keep(0);
    x.keep(1);
    due("a FAULT", Kit.net(x, "gate a;gate a;"), -1);
    due("they stay", x.back(1), 5);
    due("the same NET anew", Kit.net(x, NET), 2);
    due("0", x.back(0), -3);
    due("1", x.back(1), -3);
    x.ticks(2);
    due("kept anew", x.keep(0), 2);
    due("back", x.back(0), 2);
    due("1", x.back(1), -3);
  }
}
