/** Promises 7 to 9 and 13 to 19: how TICKS go by, and acts. */
public final class TickTest {
  static final String TWO = "gate a;gate b;link l;link m;";

  public static void main(String[] args) {
    firstHold();
    delay(5, 15);
    delay(4, 13);
    delay(0, 9);
    keeps();
    wishEnds();
    topWord();
    tracked();
    gently();
    gentlySoon();
    parts();
    allGroups();
    lostLetters();
    allLost();
    planned();
    plannedIsSo();
    bounds();
    upAndDown();
    cutAndMend();
    splitAndHeal();
    words();
    chances();
    Kit.finish("TickTest");
  }

  static void due(String call, long got, long want) { Kit.due(call, got, want); }

  static void member(GateGroup x, int group, int gate, int... want) {
    for (int w = 0; w < want.length; w++) due("member(" + group + "," + gate + "," + w + ") at " + x.has(5), x.member(group, gate, w), want[w]);
  }

  /** every 2; a has SKEW 2 * 156 / 256 = 1, PATIENCE 7, b SKEW 0, PATIENCE 6. */
  static String pair(String kind) { return TWO + "group g every 2" + kind + ";member a of g word 100;member b of g word 200;"; }

  static void firstHold() {
    GateGroup x = Kit.of(pair(""));
    member(x, 0, 0, 100, 100, 1, 1, 7, 1, 7, -1);
    member(x, 0, 1, 200, 200, 1, 1, 6, 0, 6, -1);
    due("13", x.ticks(6), 6);
    member(x, 0, 0, 100, 100, 1, 1, 1, 1, 7, -1);
    member(x, 0, 1, 200, 200, 1, 1, 0, 0, 6, -1);
    due("8 nobody HOLDS", x.group(0, 8), 0);
    due("8 GAPS", x.group(0, 5), 6);
    due("7 letters", x.has(14), 0);
    due("13", x.ticks(1), 7);
    due("8 b HOLDS", x.group(0, 8), 2);
    member(x, 0, 1, 200, 200, 1, 2, 1, 0, 6, -1);
    member(x, 0, 0, 100, 100, 1, 1, 7, 1, 7, -1);
    due("7 letters", x.has(14), 1);
    due("8 GAPS", x.group(0, 5), 6);
    due("8 DOUBLES", x.group(0, 6), 0);
    due("8 TAKES", x.group(0, 7), 1);
    due("7 changes", x.has(12), 1);
    due("13", x.ticks(500), 507);
    due("7 letters at 6, 8 .. 506", x.has(14), 251);
    due("8 TAKES", x.group(0, 7), 1);
  }

  /** a takes it at TICK 7; b, back at 8, hears of it at 9, 11, 13 .. and takes it back behind the delay. */
  static void delay(int delay, int taken) {
    GateGroup x = Kit.of(pair(delay == 0 ? "" : " delay " + delay));
    due("15 b HELD nothing", x.down(1, false), 0);
    due("13", x.ticks(8), 8);
    due("8 a HOLDS", x.group(0, 8), 1);
    due("14", x.up(1), 1);
    due("9 begins to WAIT", x.member(0, 1, 4), 6);
    due("13", x.ticks(1), 9);
    due("9 no WISH yet", x.member(0, 1, 7), -1);
    if (taken > 9) {
      due("13", x.ticks(1), 10);
      due("9 WISHES since 9", x.member(0, 1, 7), 9);
      due("9 CLOCK is PATIENCE", x.member(0, 1, 4), 6);
      Kit.till(x, taken);
      due("9 WISHES still", x.member(0, 1, 7), 9);
      due("8 a alone", x.group(0, 8), 1);
    }
    Kit.till(x, taken + 1);
    due("8 both", x.group(0, 8), 3);
    due("9 CLOCK 0", x.member(0, 1, 4), 0);
    due("9 WISHES no more", x.member(0, 1, 7), -1);
    due("21 DOUBLE", x.doubles(), 1);
    due("20 the STRONGEST", x.holder(0, 0), 1);
    Kit.till(x, taken + 2);
    due("8 b alone", x.group(0, 8), 2);
    due("9 a's CLOCK", x.member(0, 0, 4), 7);
    due("8 DOUBLES", x.group(0, 6), 1);
    due("8 TAKES", x.group(0, 7), 2);
    due("8 GAPS", x.group(0, 5), 7);
    int[][] log = {{taken + 1, 0, 0, 1}, {taken, 0, 1, 0}, {7, 0, 0, 0}, {-1, -1, -1, -1}};
    for (int i = 0; i < 4; i++) for (int w = 0; w < 4; w++) due("40 log(" + i + "," + w + ")", x.log(i, w), log[i][w]);
  }

  static void keeps() {
    GateGroup x = Kit.of(pair(" keeps"));
    x.down(1, false);
    x.ticks(8);
    x.up(1);
    x.ticks(2);
    due("9 CLOCK is PATIENCE", x.member(0, 1, 4), 6);
    due("9 no WISH", x.member(0, 1, 7), -1);
    x.ticks(400);
    due("8 a keeps it", x.group(0, 8), 1);
    x.down(0, false);
    x.ticks(10);
    due("8 b takes it", x.group(0, 8), 2);
    // one that HOLDS gives up to a STRONGER one all the same
    x.split(1);
    x.up(0);
    x.ticks(10);
    due("8 both", x.group(0, 8), 3);
    x.split(0);
    x.ticks(4);
    due("8 b alone", x.group(0, 8), 2);
  }

  static void wishEnds() {
    GateGroup x = Kit.of(pair(" delay 99"));
    x.down(1, false);
    x.ticks(8);
    x.up(1);
    x.ticks(2);
    due("9 WISHES", x.member(0, 1, 7), 9);
    due("18", x.word(0, 0, 201), 100);
    due("9 till it hears", x.member(0, 1, 7), 9);
    x.ticks(2);
    due("9 WISHES no more", x.member(0, 1, 7), -1);
    x.word(0, 0, 199);
    x.ticks(2);
    due("9 WISHES anew", x.member(0, 1, 7), 13);
    x.down(1, true);
    due("9 forgotten", x.member(0, 1, 7), -1);
    due("9 CLOCK, too", x.member(0, 1, 4), 0);
    due("9 down", x.member(0, 1, 3), 0);
    x.up(1);
    x.ticks(2);
    due("9 WISHES", x.member(0, 1, 7), 15);
    x.down(0, false);
    x.ticks(7);
    due("8 b took it, its CLOCK ran out", x.group(0, 8), 2);
    due("9 WISHES no more", x.member(0, 1, 7), -1);
    // like words: the greater number of its GATE is STRONGER
    GateGroup y = Kit.of(TWO + "group g every 2;member a of g word 50;member b of g word 50;");
    y.ticks(8);
    due("like words", y.group(0, 8), 2);
    due("both began", y.group(0, 7), 2);
    due("a gave up", y.log(0, 2), 0);
    due("a gave up", y.log(0, 3), 1);
  }

  static void topWord() {
    GateGroup x = Kit.of(TWO + "group g every 3;group h every 1;member b of g word 255;member a of g word 255;member a of h word 254;"
        + "track a of g by l less 254;");
    due("8 both at TICK 0", x.group(0, 8), 3);
    due("8 TAKES", x.group(0, 7), 2);
    due("7 changes", x.has(12), 2);
    due("40 by GATES", x.log(1, 2), 0);
    due("40 by GATES", x.log(0, 2), 1);
    due("40 TICK 0", x.log(0, 0), 0);
    due("8 254 WAITS", x.group(1, 8), 0);
    due("9 CLOCK", x.member(0, 0, 4), 0);
    x.cut(0, true);
    due("9 always that", x.member(0, 0, 1), 255);
    x.ticks(1);
    due("7 both sent", x.has(14), 2);
    due("8 b", x.group(0, 8), 2);
    due("9 a WAITS", x.member(0, 0, 4), 9);
    x.down(1, false);
    x.up(1);
    due("8 b at once", x.group(0, 8), 2);
    due("9 CLOCK", x.member(0, 1, 4), 0);
    x.word(0, 1, 254);
    x.word(1, 0, 255);
    due("8 b still", x.group(0, 8), 2);
    due("8 word alone takes nothing", x.group(1, 8), 0);
    x.down(0, false);
    x.up(0);
    due("8 255 takes", x.group(1, 8), 1);
    due("8 255 takes", x.group(0, 8), 3);
    x.down(1, false);
    x.up(1);
    due("8 254 does not", x.group(0, 8), 1);
  }

  static void tracked() {
    GateGroup x = Kit.of(TWO + "group g every 40;group h every 40;member a of g word 200;member a of h word 200;member b of g word 200;"
        + "track a of g by l less 150;track a of g by m less 49;track b of g by l less 254;");
    x.cut(0, true);
    due("9 WORD", x.member(0, 0, 1), 50);
    due("9 SKEW", x.member(0, 0, 5), 32);
    due("9 PATIENCE", x.member(0, 0, 6), 152);
    due("9 CLOCK stays", x.member(0, 0, 4), 128);
    due("9 1 at least", x.member(0, 1, 1), 1);
    due("9 SKEW", x.member(0, 1, 5), 39);
    due("9 of that GROUP alone", x.member(1, 0, 1), 200);
    x.cut(1, true);
    due("9 both", x.member(0, 0, 1), 1);
    x.cut(0, false);
    due("9 the other one", x.member(0, 0, 1), 151);
    due("9 as told", x.member(0, 0, 0), 200);
    x.word(0, 0, 255);
    due("9 255", x.member(0, 0, 1), 255);
    due("9 SKEW", x.member(0, 0, 5), 0);
    x.word(0, 0, 256 - 207);
    due("9 49 less 49", x.member(0, 0, 1), 1);
  }

  static void gently() {
    String net = "gate a;gate b;gate c;group g every 20;group h every 20;group i every 20;"
        + "member a of g word 250;member b of g word 100;member c of g word 240;member a of h word 250;member b of h word 100;"
        + "member b of i word 250;member a of i word 3;";
    GateGroup x = Kit.of(net);
    Kit.till(x, 100);
    due("23 a HOLDS g, h", x.holds(0), 3);
    due("23 b HOLDS i", x.holds(1), 4);
    int sent = x.has(14);
    due("15 of two", x.down(0, true), 2);
    due("7 two letters more", x.has(14), sent + 2);
    due("9 SKEW 20 * 156 / 256", x.member(0, 1, 4), 12);
    due("9 1 at least", x.member(0, 2, 5), 1);
    due("9 1 at least", x.member(0, 2, 4), 1);
    due("9 SKEW", x.member(1, 1, 4), 12);
    due("40 goes down while it HOLDS", x.log(0, 3), 2);
    due("40 GROUP", x.log(0, 1), 1);
    due("40 GROUP ahead of it", x.log(1, 1), 0);
    due("40 GATE", x.log(0, 2), 0);
    due("40 TICK", x.log(0, 0), 100);
    x.undo();
    int clock = x.member(0, 1, 4);
    due("15 not gently", x.down(0, false), 2);
    due("9 CLOCK as it was", x.member(0, 1, 4), clock);
    due("7 no letter", x.has(14), sent);
    due("40 told all the same", x.log(0, 3), 2);
    x.undo();
    x.split(4);
    x.down(0, true);
    due("9 in its PART", x.member(0, 1, 4), 12);
    due("9 not in the other", x.member(0, 2, 4) > 1 ? 1 : 0, 1);
    // one that HOLDS reads nothing of it; a CLOCK that is below stays
    GateGroup y = Kit.of("gate a;gate b;group g every 20;member a of g word 255;member b of g word 1;");
    y.ticks(1);
    y.split(1);
    Kit.till(y, 81);
    due("8 both", y.group(0, 8), 3);
    y.split(0);
    int own = y.member(0, 1, 4);
    y.down(0, true);
    due("9 reads nothing", y.member(0, 1, 4), own);
    due("8 b", y.group(0, 8), 2);
    GateGroup z = Kit.of("gate a;gate b;group g every 20;member a of g word 255;member b of g word 1;");
    z.ticks(1);
    due("9 PATIENCE 60 and 19", z.member(0, 1, 4), 79);
    z.split(1);
    Kit.till(z, 70);
    due("9 CLOCK", z.member(0, 1, 4), 10);
    z.split(0);
    z.down(0, true);
    due("9 below its SKEW of 19", z.member(0, 1, 4), 10);
  }

  /** SKEW 20 * 6 / 256 is 0: the CLOCK is 1. */
  static void gentlySoon() {
    GateGroup x = Kit.of("gate a;gate b;group g every 20;member a of g word 250;member b of g word 255;");
    x.ticks(5);
    due("9 SKEW", x.member(0, 0, 5), 0);
    x.down(1, true);
    due("9 CLOCK", x.member(0, 0, 4), 1);
    x.ticks(1);
    due("8 nobody yet", x.group(0, 8), 0);
    x.ticks(1);
    due("8 a", x.group(0, 8), 1);
  }

  static void allGroups() {
    StringBuilder s = new StringBuilder("gate a;gate b;gate c;gate d;gate e;gate f;");
    for (char g = 'g'; g <= 'k'; g++) {
      s.append("group " + g + " every 1;");
      for (char k = 'a'; k <= 'f'; k++) s.append("member " + k + " of " + g + " word " + (k == 'f' ? 255 : 9) + ";");
    }
    GateGroup x = Kit.of(s.toString());
    x.ticks(10);
    for (int g = 0; g < 5; g++) due("8 f", x.group(g, 8), 32);
    due("7 letters", x.has(14), 50);
    due("15 of all", x.down(5, true), 5);
    due("22 all", x.orphans(), 31);
    x.ticks(10);
    for (int g = 0; g < 5; g++) due("8 e", x.group(g, 8), 16);
    due("14", x.up(5), 1);
    due("21 all", x.doubles(), 31);
    due("23 all", x.holds(5), 31);
    x.ticks(1);
    due("21 none", x.doubles(), 0);
    due("35", x.letters(500), 2500);
    due("31", x.settles(), 0);
  }

  static void parts() {
    GateGroup x = Kit.of("gate a;gate b;gate c;group g every 1;member a of g word 10;member b of g word 20;member c of g word 30;");
    due("17", x.split(3), 1);
    due("7 PART 1", x.has(8), 3);
    x.ticks(10);
    due("8 one each", x.group(0, 8), 6);
    due("21 not DOUBLE", x.doubles(), 0);
    due("8 DOUBLES", x.group(0, 6), 0);
    due("20 in a's PART", x.holder(0, 0), 1);
    due("20 in c's PART", x.holder(0, 2), 2);
    due("17 c alone is PART 1 now", x.split(4), 1);
    due("7 PART 1", x.has(8), 4);
    x.split(0);
    due("21 DOUBLE at once", x.doubles(), 1);
    x.ticks(1);
    due("8 c", x.group(0, 8), 4);
    due("8 DOUBLES never behind a TICK", x.group(0, 6), 0);
    x.split(7);
    due("17 all in one", x.has(8), 7);
    x.ticks(50);
    due("8 c", x.group(0, 8), 4);
  }

  /** Two MEMBERS: each letter has one reader, so there is a DRAW for each one. */
  static void lostLetters() {
    GateGroup x = Kit.of("gate a;gate b;group g every 1;member a of g word 1;member b of g word 255;");
    due("19", x.chance(40, 12345), 1);
    long seed = 12345;
    int drawn = 0;
    int lost = 0;
    for (int i = 1; i <= 100; i++) {
      x.ticks(1);
      for (; drawn < x.has(14); drawn++) {
        seed = (1103515245L * seed + 12345) % 2147483648L;
        lost += seed / 64 % 100 < 40 ? 1 : 0;
      }
      due("7 x", x.has(10), seed);
      due("7 lost", x.has(15), lost);
    }
    Kit.due("7 some are lost", lost > 20 && lost < 60, true);
    due("19", x.chance(0, 0), 1);
    x.ticks(20);
    due("7 no DRAW", x.has(10), 0);
    due("7 lost", x.has(15), lost);
    // of two readers, by readers: two DRAWS a letter; not of itself, not of one that is down or in another PART
    GateGroup y = Kit.of("gate a;gate b;gate c;group g every 1;member a of g word 1;member b of g word 255;member c of g word 1;");
    y.chance(1, 1);
    y.ticks(1);
    due("7 x", y.has(10), draws(1, 2));
    y.down(2, false);
    y.ticks(1);
    due("7 x", y.has(10), draws(1, 3));
    y.split(1);
    y.ticks(1);
    due("7 x", y.has(10), draws(1, 3));
  }

  static long draws(long x, int n) {
    for (int i = 0; i < n; i++) x = (1103515245L * x + 12345) % 2147483648L;
    return x;
  }

  static void allLost() {
    // by seed 0 the first numbers are 12345 and on: the reader takes it, as letters are LOST
    GateGroup x = Kit.of("gate a;gate b;group g every 1;member a of g word 1;member b of g word 255;");
    x.chance(99, 0);
    x.ticks(200);
    due("8 a began to HOLD meanwhile", x.group(0, 7) > 1 ? 1 : 0, 1);
    due("8 DOUBLES", x.group(0, 6) > 0 ? 1 : 0, 1);
  }

  static void planned() {
    GateGroup x = Kit.of(TWO + "group g every 1;member a of g word 10;member b of g word 255;track a of g by l less 3;",
        "at 0 cut l;at 2 down b;at 2 word a of g 20;at 4 split a;at 6 heal;at 6 mend l;at 8 up b;at 9999 down a;");
    due("7 not ahead of its TICK", x.has(7), 0);
    x.ticks(1);
    due("7 cut", x.has(7), 1);
    due("9 WORD", x.member(0, 0, 1), 7);
    x.ticks(1);
    due("7 b is up", x.has(6), 3);
    x.ticks(1);
    due("7 b is down", x.has(6), 1);
    due("9 word", x.member(0, 0, 0), 20);
    due("40 went down at 2", x.log(0, 0), 2);
    due("40 went down at 2", x.log(0, 3), 2);
    due("8 GAPS behind 2", x.group(0, 5), 1);
    x.ticks(2);
    due("7 split", x.has(8), 1);
    x.ticks(2);
    due("7 healed", x.has(8), 0);
    due("7 mended", x.has(7), 0);
    x.ticks(2);
    due("7 b is up", x.has(6), 3);
    due("8 b took it", x.group(0, 8), 2);
    due("7 EVENTS stay", x.has(11), 8);
    Kit.till(x, 9999);
    due("7 the TICK 9999 never goes by", x.has(6), 3);
  }

  static void plannedIsSo() {
    GateGroup x = Kit.of(TWO + "group g every 1;member a of g word 10;member b of g word 255;", "at 0 up b;at 0 mend l;at 0 heal;at 0 word a of g 10;at 3 down b;at 3 down b;at 3 up b;at 3 up b;");
    x.ticks(3);
    due("8 TAKES", x.group(0, 7), 1);
    x.ticks(1);
    due("8 TAKES: down and up in one TICK", x.group(0, 7), 2);
    due("7 changes", x.has(12), 3);
    due("8 no GAPS", x.group(0, 5), 0);
    due("7 letters", x.has(14), 4);
  }

  static void bounds() {
    GateGroup x = Kit.of(TWO + "group g every 1;member a of g word 10;");
    int[] bad = {0, -1, 501, Integer.MAX_VALUE, Integer.MIN_VALUE};
    for (int n : bad) due("13 ticks(" + n + ")", x.ticks(n), -2);
    due("7 no ACT", x.has(13), 0);
    Kit.till(x, 9500);
    due("13 beyond", x.ticks(500), -2);
    due("13 to the last", x.ticks(499), 9999);
    due("13 beyond", x.ticks(1), -2);
    due("8 TICKS all", x.group(0, 5), 3);
  }

  static void upAndDown() {
    GateGroup x = Kit.of(TWO + "group g every 1;member a of g word 10;member b of g word 255;");
    int[] none = {-1, 2, 6, 32, Integer.MAX_VALUE, Integer.MIN_VALUE};
    for (int k : none) {
      due("14 up(" + k + ")", x.up(k), -2);
      due("15 down(" + k + ")", x.down(k, true), -2);
    }
    due("14 it is up", x.up(0), -3);
    due("15", x.down(1, false), 1);
    due("15 it is down", x.down(1, false), -3);
    due("7 up", x.has(6), 1);
    due("7 ACTS", x.has(13), 1);
    due("14", x.up(1), 1);
    due("15 WAITS alone", x.down(0, true), 0);
    due("7 no letter", x.has(14), 0);
    due("7 ACTS", x.has(13), 3);
    x.down(1, false);
    x.ticks(9);
    due("8 no GAPS while none is up", x.group(0, 5), 0);
    due("22 no orphan", x.orphans(), 0);
  }

  static void cutAndMend() {
    GateGroup x = Kit.of(TWO);
    int[] none = {-1, 2, 8, 32, Integer.MIN_VALUE};
    for (int k : none) { due("16", x.cut(k, true), -2); due("16", x.cut(k, false), -2); }
    due("16 it is whole", x.cut(1, false), -3);
    due("16", x.cut(1, true), 1);
    due("16 it is cut", x.cut(1, true), -3);
    due("7 cut", x.has(7), 2);
    due("16", x.cut(1, false), 1);
    due("7 cut", x.has(7), 0);
    due("7 ACTS", x.has(13), 2);
  }

  static void splitAndHeal() {
    GateGroup x = Kit.of(TWO);
    int[] none = {-1, 4, 5, 8, 64, Integer.MIN_VALUE, Integer.MAX_VALUE};
    for (int k : none) due("17", x.split(k), -2);
    due("17 it is one PART", x.split(0), -3);
    due("17", x.split(2), 1);
    due("17 it is so", x.split(2), -3);
    due("17 the other way round", x.split(1), 1);
    due("17 all", x.split(3), 1);
    due("17 heal", x.split(0), 1);
    due("7 ACTS", x.has(13), 4);
  }

  static void words() {
    GateGroup x = Kit.of(TWO + "group g every 1;group h every 1;member a of g word 10;");
    int[][] bad = {{0, 0, 0}, {0, 0, 256}, {0, 0, -1}, {0, 0, Integer.MAX_VALUE}, {0, 1, 5}, {1, 0, 5}, {2, 0, 5}, {-1, 0, 5}, {0, -1, 5}, {0, 2, 5}, {Integer.MAX_VALUE, 0, 5}};
    for (int[] b : bad) due("18", x.word(b[0], b[1], b[2]), -2);
    due("18", x.word(0, 0, 255), 10);
    due("18", x.word(0, 0, 1), 255);
    due("18 the same", x.word(0, 0, 1), 1);
    due("7 ACTS", x.has(13), 3);
  }

  static void chances() {
    GateGroup x = Kit.of(TWO);
    int[][] bad = {{-1, 0}, {100, 0}, {0, -1}, {5, Integer.MIN_VALUE}, {Integer.MAX_VALUE, 0}};
    for (int[] b : bad) due("19", x.chance(b[0], b[1]), -2);
    due("19", x.chance(99, Integer.MAX_VALUE), 1);
    due("7 chance", x.has(9), 99);
    due("7 x", x.has(10), Integer.MAX_VALUE);
    due("19 the same", x.chance(99, Integer.MAX_VALUE), 1);
    due("7 ACTS", x.has(13), 2);
  }
}
