/** Promises 40 to 43: the log, acts undone, images. */
public final class ImageTest {
  static final String NET = "gate a;gate b;link l;group g every 2;group h every 1;member a of g word 100;member b of g word 200;member b of h word 255;";

  public static void main(String[] args) {
    log();
    undo();
    undoAll();
    undoWishes();
    undoEach();
    twelve();
    images();
    noNet();
    Kit.finish("ImageTest");
  }

  static void due(String call, long got, long want) { Kit.due(call, got, want); }

  static void log() {
    GateGroup x = Kit.of("gate a;gate b;group g every 2;group h every 1;member b of h word 255;");
    due("40 at TICK 0", x.log(0, 1), 1);
    due("7", x.has(12), 1);
    for (int i = 0; i < 40; i++) { x.down(1, false); x.up(1); x.ticks(1); }
    due("7 60 at most", x.has(12), 60);
    for (int i = 0; i < 60; i++) {
      due("40 TICK", x.log(i, 0), 39 - i / 2);
      due("40 GROUP", x.log(i, 1), 1);
      due("40 GATE", x.log(i, 2), 1);
      due("40 what", x.log(i, 3), i % 2 == 0 ? 0 : 2);
    }
    int[][] none = {{60, 0}, {-1, 0}, {0, 4}, {0, -1}, {Integer.MAX_VALUE, 0}, {Integer.MIN_VALUE, 0}};
    for (int[] n : none) due("40 none such", x.log(n[0], n[1]), -1);
  }

  static void undo() {
    GateGroup x = Kit.of(NET);
    due("41 none can be", x.undo(), -3);
    x.ticks(20);
    int[] before = PaperTest.picture(x);
    x.ticks(300);
    x.down(1, true);
    due("41", x.undo(), 2);
    due("41", x.undo(), 1);
    int[] after = PaperTest.picture(x);
    for (int i = 0; i < before.length; i++) due("41 as it was, " + i, after[i], before[i]);
    due("41", x.undo(), 0);
    due("41 TICK 0", x.has(5), 0);
    due("41 none can be", x.undo(), -3);
  }

  /** With all that can change: WISHES, GAPS, DOUBLES, letters that are LOST, a full LOG. */
  static void undoAll() {
    GateGroup x = Kit.of("gate a;gate b;gate c;link l;group g every 1 delay 9;group h every 1;member a of g word 100;member b of g word 200;member c of h word 255;"
        + "member a of h word 3;", "at 3 down b;at 10 up b;");
    for (int i = 0; i < 25; i++) { x.down(2, false); x.up(2); }
    x.chance(70, 3);
    x.ticks(100);
    x.chance(0, 1);
    x.word(0, 1, 1);
    x.ticks(3);
    x.word(0, 1, 150);
    x.word(0, 0, 149);
    x.ticks(2);
    x.split(1);
    x.ticks(8);
    x.split(0);
    x.cut(0, true);
    int[] before = PaperTest.picture(x);
    x.keep(1);
    for (int round = 0; round < 2; round++) {
      x.chance(50, 9);
      x.ticks(300);
      Kit.plan(x, "");
      x.down(0, true);
      x.down(1, true);
      x.ticks(1);
      x.cut(0, false);
      for (int i = 0; i < 7 && round == 0; i++) x.undo();
      if (round == 1) x.back(1);
      int[] after = PaperTest.picture(x);
      for (int i = 0; i < before.length; i++) due("41, 43 as it was, " + i, after[i], i == 13 ? 5 * (1 - round) : before[i]);
      due("41, 43 the PLAN", x.event(0, 0), 3);
    }
  }

  static void undoWishes() {
    GateGroup x = Kit.of("gate a;gate b;group g every 2 delay 50;member a of g word 100;member b of g word 200;");
    x.ticks(3);
    due("8 GAPS", x.group(0, 5), 3);
    x.ticks(2);
    x.undo();
    due("41 GAPS", x.group(0, 5), 3);
    x.down(1, false);
    x.ticks(20);
    x.up(1);
    x.ticks(5);
    int since = x.member(0, 1, 7);
    Kit.due("9 WISHES", since >= 23, true);
    x.keep(0);
    x.down(1, false);
    due("9 WISHES no more", x.member(0, 1, 7), -1);
    x.undo();
    due("41 WISHES", x.member(0, 1, 7), since);
    x.ticks(100);
    due("9 took it", x.member(0, 1, 7), -1);
    x.back(0);
    due("43 WISHES", x.member(0, 1, 7), since);
    due("28 on paper, too", x.ahead(0, since + 50 - 28), 1);
    due("28 on paper, too", x.ahead(0, since + 51 - 28), 3);
  }

  static void undoEach() {
    GateGroup x = Kit.of(NET);
    Kit.plan(x, "at 3 heal;");
    x.ticks(1);
    x.down(0, false);
    x.up(0);
    x.cut(0, true);
    x.cut(0, false);
    x.split(1);
    x.split(0);
    x.word(0, 0, 7);
    x.chance(5, 9);
    due("7 ten ACTS", x.has(13), 10);
    // what is not done is no ACT
    x.up(0); x.down(7, true); x.cut(0, false); x.split(0); x.word(0, 0, 0); x.chance(100, 0); x.ticks(0);
    Kit.plan(x, "at");
    x.keep(0);
    due("7 ten ACTS", x.has(13), 10);
    due("41 chance", x.undo(), 9);
    due("7", x.has(9), 0);
    due("7", x.has(10), 1);
    x.undo();
    due("41 word", x.member(0, 0, 0), 100);
    x.undo();
    due("41 heal", x.has(8), 1);
    x.undo();
    due("41 split", x.has(8), 0);
    x.undo();
    due("41 mend", x.has(7), 1);
    x.undo();
    due("41 cut", x.has(7), 0);
    x.undo();
    due("41 up", x.has(6), 2);
    x.undo();
    due("41 down", x.has(6), 3);
    x.undo();
    due("41 ticks", x.has(5), 0);
    due("41 plan", x.has(11), 1);
    due("41 plan", x.undo(), 0);
    due("41 plan", x.has(11), 0);
  }

  static void twelve() {
    GateGroup x = Kit.of(NET);
    for (int i = 1; i <= 20; i++) { x.ticks(i); due("7", x.has(13), Math.min(i, 12)); }
    due("7 TICK", x.has(5), 210);
    for (int i = 11; i >= 0; i--) due("41", x.undo(), i);
    due("7 behind eight", x.has(5), 36);
    due("41", x.undo(), -3);
    for (int i = 0; i < 30; i++) { x.ticks(1); x.ticks(1); x.undo(); }
    due("7 behind eight and thirty", x.has(5), 66);
    due("7 twelve, and one of them undone", x.has(13), 11);
  }

  static void images() {
    GateGroup x = Kit.of(NET, "at 40 cut l;");
    x.ticks(20);
    due("43 nothing was kept", x.back(0), -3);
    due("42", x.keep(0), 20);
    due("43 nothing was kept", x.back(1), -3);
    int[] before = PaperTest.picture(x);
    Kit.plan(x, "at 30 down a;at 31 down b;");
    x.ticks(30);
    x.word(0, 0, 9);
    x.chance(4, 4);
    due("42", x.keep(1), 50);
    due("42 ACTS stay, the sixth is undone", x.undo(), 5);
    due("43", x.back(0), 20);
    int[] after = PaperTest.picture(x);
    for (int i = 0; i < before.length; i++) due("43 as it was kept, " + i, after[i], i == 13 ? 0 : before[i]);
    due("43 nothing can be undone", x.undo(), -3);
    due("43 the PLAN, too", x.event(0, 1), 2);
    x.ticks(25);
    due("43 the PLAN goes on", x.has(7), 1);
    due("43", x.back(1), 50);
    due("43 the other one", x.has(9), 4);
    due("43 both are down", x.has(6), 0);
    due("43 again", x.back(0), 20);
    x.ticks(1);
    due("42 anew", x.keep(0), 21);
    x.ticks(5);
    due("43", x.back(0), 21);
    int[] none = {-1, 2, Integer.MAX_VALUE, Integer.MIN_VALUE};
    for (int k : none) { due("42", x.keep(k), -2); due("43", x.back(k), -2); }
  }

  static void noNet() {
    GateGroup x = new GateGroup();
    due("41", x.undo(), -2);
    due("42", x.keep(0), -2);
    due("43", x.back(0), -2);
    due("40", x.log(0, 0), -1);
  }
}
