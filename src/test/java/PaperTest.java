/** Promises 28 to 39: what would be. None of it changes anything. */
public final class PaperTest {
  /** a takes over in 7 TICKS behind the latest letter of b, at the latest; b's WORD is 1 while l is cut. */
  static final String NET = "gate a;gate b;gate c;link l;link m;group g every 2;group h every 3;member a of g word 100;member b of g word 200;"
      + "track b of g by l less 199;member c of h word 255;";

  public static void main(String[] args) {
    ahead();
    fails();
    failsInParts();
    failsAtLast();
    worst();
    settles();
    settlesAtEdges();
    least();
    flaps();
    needs();
    letters();
    stands();
    returns();
    under();
    rank();
    planGoesOn();
    drawsFromX();
    nothingChanges();
    tooLate();
    noneSuch();
    Kit.finish("PaperTest");
  }

  static void due(String call, long got, long want) { Kit.due(call, got, want); }

  static void ahead() {
    GateGroup x = Kit.of(NET);
    due("28 now", x.ahead(0, 0), 0);
    due("28 in 6", x.ahead(0, 6), 0);
    due("28 in 7", x.ahead(0, 7), 2);
    due("28 in 500", x.ahead(0, 500), 2);
    due("28 h", x.ahead(1, 0), 4);
    due("28", x.ahead(0, -1), -1);
    due("28", x.ahead(0, 501), -1);
  }

  static void fails() {
    GateGroup x = Kit.of(NET);
    Kit.till(x, 7);
    // b sent at 6: a's CLOCK is 7, it takes it in the eighth TICK
    due("29", x.fails(0, 1, 0), 8);
    due("29 who", x.fails(0, 1, 1), 0);
    due("29 b HOLDS it still", x.fails(0, 0, 0), 0);
    due("29 who", x.fails(0, 0, 1), 1);
    due("29 a GATE that is no MEMBER", x.fails(0, 2, 0), 0);
    due("29 none else", x.fails(1, 2, 0), -1);
    due("29 none else", x.fails(1, 2, 1), -1);
    due("29 others", x.fails(0, 1, 2), -1);
    due("29 others", x.fails(0, 1, -1), -1);
    x.down(0, false);
    due("29 it is down", x.fails(0, 0, 0), -1);
    due("29 nobody else is up", x.fails(0, 1, 0), -1);
    // the STRONGEST of those that begin in one TICK
    GateGroup y = Kit.of("gate a;gate b;gate c;group g every 1;member a of g word 5;member b of g word 6;member c of g word 255;");
    y.ticks(1);
    due("29", y.fails(0, 2, 0), 4);
    due("29 who", y.fails(0, 2, 1), 1);
    y.split(2);
    due("29 not in another PART", y.fails(0, 1, 0), -1);
  }

  static void failsInParts() {
    GateGroup x = Kit.of("gate a;gate b;gate c;group g every 1;member a of g word 5;member b of g word 6;member c of g word 255;");
    x.ticks(1);
    x.split(4);
    due("29 none but c in its PART", x.fails(0, 2, 0), -1);
    due("29 b and then a: CLOCK 3", x.fails(0, 0, 0), 4);
    due("29 who", x.fails(0, 0, 1), 1);
    Kit.plan(x, "at 9 heal;");
    due("29 healed at 9: a holds or b, in 9 TICKS", x.fails(0, 2, 0), 9);
    due("29 who", x.fails(0, 2, 1), 1);
  }

  static void failsAtLast() {
    String net = "gate a;gate b;group g every 1;member a of g word 255;member b of g word 255;";
    GateGroup x = Kit.of(net, "at 0 down b;at 499 up b;");
    x.ticks(1);
    Kit.plan(x, "at 500 up b;");
    due("29 behind 500", x.fails(0, 0, 0), 500);
    due("29 who", x.fails(0, 0, 1), 1);
    due("30", x.worst(0, 0), 500);
    due("30", x.worst(0, 1), 0);
    due("37 behind 0", x.returns(0, 1), 0);
    Kit.plan(x, "at 501 up b;");
    due("29 not by 500", x.fails(0, 0, 0), -1);
    due("29 not by 500", x.fails(0, 0, 1), -1);
    Kit.plan(x, "at 5 up a;");
    due("29 some other MEMBER, not itself", x.fails(0, 0, 0), -1);
    x.word(0, 1, 9);
    Kit.plan(x, "at 500 word b of g 255;at 500 down b;at 500 up b;");
    due("37 behind 500", x.returns(0, 1), 500);
    Kit.plan(x, "at 501 word b of g 255;at 501 down b;at 501 up b;");
    due("37 not by 500", x.returns(0, 1), -1);
  }

  static void settlesAtEdges() {
    String net = "gate a;link l;group g every 1;member a of g word 255;";
    GateGroup x = Kit.of(net, "at 100 down a;at 100 up a;");
    due("31 the 100 TICKS 0 to 99", x.settles(), 0);
    Kit.plan(x, "at 99 down a;at 99 up a;");
    due("31", x.settles(), 100);
    String often = "at 99 down a;at 99 up a;at 199 down a;at 199 up a;at 299 down a;at 299 up a;at 399 down a;at 399 up a;";
    Kit.plan(x, often + "at 499 down a;at 499 up a;");
    due("31 500", x.settles(), 500);
    Kit.plan(x, often + "at 450 down a;at 450 up a;at 500 down a;at 500 up a;");
    due("31 not by 500", x.settles(), -1);
    // to give up alone
    GateGroup y = Kit.of("gate a;gate b;group g every 2;member a of g word 255;member b of g word 1;");
    y.split(1);
    Kit.till(y, 50);
    y.split(0);
    due("8 both", y.group(0, 8), 3);
    due("31 b gives up when a sends", y.settles(), 1);
    due("33 none begins", y.flaps(0, 500), 0);
  }

  static void worst() {
    GateGroup x = Kit.of(NET);
    Kit.till(x, 7);
    due("30", x.worst(0, 0), 8);
    due("30 whose", x.worst(0, 1), 1);
    due("30 not by 500", x.worst(1, 0), -1);
    due("30 its GATE", x.worst(1, 1), 2);
    due("30 others", x.worst(0, 2), -1);
    due("30 others", x.worst(0, -1), -1);
    x.down(2, false);
    due("30 none is up", x.worst(1, 0), -1);
    due("30 none is up", x.worst(1, 1), -1);
    // like ones: the first
    GateGroup y = Kit.of("gate a;gate b;gate c;group g every 1;member a of g word 255;member b of g word 255;member c of g word 255;");
    due("30 like ones", y.worst(0, 0), 0);
    due("30 the first", y.worst(0, 1), 0);
    y.down(0, false);
    due("30 the first that is up", y.worst(0, 1), 1);
    // the first of those not by 500, though another one is longer than 0
    GateGroup z = Kit.of("gate a;gate b;gate c;group g every 1;member a of g word 255;member b of g word 3;member c of g word 2;");
    z.ticks(1);
    z.split(6);
    due("30", z.worst(0, 0), -1);
    due("30", z.worst(0, 1), 0);
  }

  static void settles() {
    GateGroup x = Kit.of(NET);
    due("31 b begins in TICK 6", x.settles(), 7);
    x.ticks(6);
    due("31", x.settles(), 1);
    x.ticks(1);
    due("31", x.settles(), 0);
    Kit.plan(x, "at 107 down b;");
    due("31 100 TICKS, 7 to 106", x.settles(), 0);
    Kit.plan(x, "at 100 down b;");
    // b sent at 98, a has its CLOCK at 7 behind it and begins at 106
    due("31 till a took it", x.settles(), 100);
    Kit.plan(x, "at 101 down b;");
    due("31 b sent at 100, a begins at 108", x.settles(), 0);
    Kit.plan(x, "at 50 down c;");
    due("31 to go down is neither", x.settles(), 0);
    Kit.plan(x, "at 20 down c;at 60 up c;");
    due("31 c begins at 60", x.settles(), 54);
    StringBuilder often = new StringBuilder();
    for (int i = 0; i < 10; i++) often.append("at " + (60 * i + 10) + " down c;at " + (60 * i + 11) + " up c;");
    Kit.plan(x, often.toString());
    // the last one begins at 551, behind which 100 TICKS are calm: 552 less 7 is beyond 500
    due("31 not by 500", x.settles(), -1);
    Kit.plan(x, often.toString().substring(0, often.indexOf("at 550")));
    due("31 the last at 491", x.settles(), 485);
    x.ticks(6);
    due("31", x.settles(), 479);
    due("31 nothing", Kit.of("").settles(), 0);
  }

  static void least() {
    GateGroup x = Kit.of(NET);
    Kit.till(x, 7);
    due("32 above 200 (b is STRONGER of like ones)", x.least(0, 0), 201);
    due("32 like ones", x.least(0, 1), 100);
    x.cut(0, true);
    due("32 b with l cut", x.least(0, 1), -1);
    x.cut(0, false);
    due("32 told now, though it has 255", x.least(1, 2), 1);
    x.down(0, false);
    due("32 it is down", x.least(0, 0), -1);
    due("32 alone", x.least(0, 1), 1);
    due("32 no MEMBER", x.least(0, 2), -1);
    GateGroup w = Kit.of("gate a;gate b;group g every 2;member a of g word 9;member b of g word 253;");
    due("32 the greatest", w.least(0, 0), 254);
    w.word(0, 1, 254);
    due("32 254 is not enough", w.least(0, 0), -1);
    GateGroup y = Kit.of("gate a;gate b;group g every 2;member a of g word 255;member b of g word 5;");
    due("32 not against 255", y.least(0, 1), -1);
    GateGroup z = Kit.of("gate a;gate b;group g every 2 keeps;member a of g word 9;member b of g word 5;");
    Kit.till(z, 20);
    due("32 never taken back", z.least(0, 1), -1);
    due("32 by any", z.least(0, 0), 1);
  }

  static void flaps() {
    GateGroup x = Kit.of(NET);
    due("33", x.flaps(0, 6), 0);
    due("33", x.flaps(0, 7), 1);
    due("33", x.flaps(0, 500), 1);
    due("33 what began stays", x.flaps(1, 500), 0);
    due("33", x.flaps(0, 0), -1);
    due("33", x.flaps(0, 501), -1);
    due("33", x.flaps(0, -1), -1);
    Kit.plan(x, "at 30 down c;at 31 up c;at 32 down c;at 33 up c;");
    due("33 twice", x.flaps(1, 500), 2);
    due("33 once", x.flaps(1, 33), 1);
    due("33 twice", x.flaps(1, 34), 2);
  }

  static void needs() {
    GateGroup x = Kit.of(NET + "link n;track a of g by m less 99;");
    Kit.till(x, 20);
    due("34 l", x.needs(0, 0), 1);
    due("34 of none in h", x.needs(1, 0), 0);
    x.cut(0, true);
    // b has 1 now: with m cut, too, a has 1 as well, and b is STRONGER
    due("34 m, as l is cut already", x.needs(0, 0), 2);
    x.split(1);
    due("34 a is alone", x.needs(0, 0), 0);
    // another one is also nobody: b's WORD falls to 1, its CLOCK of 290 is told by word 1 .. here c alone
    GateGroup y = Kit.of("gate a;gate b;link l;group g every 1;member a of g word 255;member b of g word 9;track b of g by l less 8;", "at 299 down a;");
    due("34 nobody either way", y.needs(0, 0), 0);
  }

  static void letters() {
    GateGroup x = Kit.of(NET);
    // h: at 0, 3, 6, 9; g: at 6, 8
    due("35", x.letters(1), 1);
    due("35", x.letters(6), 2);
    due("35", x.letters(7), 4);
    due("35", x.letters(9), 5);
    due("35", x.letters(10), 6);
    due("35", x.letters(0), -1);
    due("35", x.letters(501), -1);
    due("35", x.letters(-1), -1);
    due("35 no GROUP", Kit.of("").letters(5), 0);
  }

  static void stands() {
    GateGroup x = Kit.of(NET);
    due("36", x.stands(0, 1, 6), 0);
    due("36", x.stands(0, 1, 7), 1);
    due("36", x.stands(0, 1, 500), 494);
    due("36", x.stands(0, 0, 500), 0);
    due("36", x.stands(1, 2, 500), 500);
    due("36 no MEMBER", x.stands(0, 2, 5), -1);
    due("36", x.stands(0, 1, 0), -1);
    due("36", x.stands(0, 1, 501), -1);
    Kit.plan(x, "at 10 down b;at 40 up b;");
    // b HOLDS behind 6 .. 9; a from 16 on (b sent at 8) till b, up at 40, hears a at 40, begins at 40, sends at 41
    due("36 a", x.stands(0, 0, 100), 25);
    due("36 b", x.stands(0, 1, 100), 4 + 60);
  }

  static void returns() {
    GateGroup x = Kit.of(NET);
    due("37 it is up", x.returns(0, 0), -1);
    due("37 it is up", x.returns(0, 1), -1);
    due("37 it is up", x.returns(1, 2), -1);
    x.down(2, false);
    due("37 at once", x.returns(1, 2), 0);
    due("37 no MEMBER", x.returns(0, 2), -1);
    x.up(2);
    x.down(1, false);
    Kit.till(x, 20);
    // a sends at 7, 9 .. 19, 21: b hears it in the second TICK
    due("37", x.returns(0, 1), 2);
    x.up(1);
    x.ticks(5);
    x.down(0, false);
    due("37 not by 500", x.returns(0, 0), -1);
    x.down(1, false);
    due("37 PATIENCE 7, it begins in the eighth TICK", x.returns(0, 0), 8);
    due("37 PATIENCE 6", x.returns(0, 1), 7);
  }

  static void under() {
    GateGroup x = Kit.of(NET);
    Kit.till(x, 20);
    due("38", x.under(0, 0, 0), 1);
    due("38", x.under(0, 2, 1), 0);
    due("38", x.under(0, 0, 2), 1);
    due("38", x.under(0, 0, 3), 0);
    x.cut(0, true);
    due("38 all others whole", x.under(0, 0, 0), 1);
    due("38 all others whole", x.under(0, 0, 2), 1);
    due("38 no such LINKS", x.under(0, 0, 4), -1);
    due("38 no such LINKS", x.under(0, 0, -1), -1);
    x.split(1);
    due("38 in a's PART", x.under(0, 0, 0), 0);
    due("38 in c's PART", x.under(0, 2, 1), 1);
    due("38 nobody", x.under(1, 0, 0), -1);
  }

  static void rank() {
    GateGroup x = Kit.of("gate a;gate b;gate c;gate d;link l;group g every 1;member a of g word 7;member b of g word 9;member d of g word 7;track b of g by l less 5;");
    int[] want = {1, 3, 0, -1};
    for (int k = 0; k < 4; k++) due("39", x.rank(0, k), want[k]);
    x.cut(0, true);
    x.down(3, false);
    int[] weaker = {3, 0, 1, -1};
    for (int k = 0; k < 4; k++) due("39 WORD now, up or down", x.rank(0, k), weaker[k]);
    due("39", x.rank(0, -1), -1);
    due("39", x.rank(1, 0), -1);
    due("39", x.rank(-1, 0), -1);
    due("39", x.rank(0, Integer.MAX_VALUE), -1);
  }

  static void planGoesOn() {
    GateGroup x = Kit.of(NET, "at 50 down b;at 60 cut l;at 70 up b;at 80 mend l;");
    due("28", x.ahead(0, 50), 2);
    due("28", x.ahead(0, 51), 0);
    due("28", x.ahead(0, 70), 1);
    due("28", x.ahead(0, 100), 2);
    due("32 EVENTS after it", x.least(0, 0), 201);
  }

  static void drawsFromX() {
    GateGroup x = Kit.of("gate a;gate b;gate c;group g every 1;group h every 1;member a of g word 9;member b of g word 8;member a of h word 9;member b of h word 8;member c of h word 7;");
    x.chance(60, 4711);
    x.ticks(5);
    for (int n = 1; n <= 40; n++) {
      int held = x.ahead(1, n);
      int takes = x.flaps(1, n) + x.group(1, 7);
      int sent = x.letters(n) + x.has(14);
      int seed = x.has(10);
      x.keep(0);
      x.ticks(n);
      due("28 as it will be", held, x.group(1, 8));
      due("33 as it will be", takes, x.group(1, 7));
      due("35 as it will be", sent, x.has(14));
      x.back(0);
      due("7 x as it is", x.has(10), seed);
      // on paper without DRAWS in between
      x.chance(0, 1);
      due("28 no DRAWS", x.ahead(0, 400), x.ahead(0, 500));
      x.undo();
    }
  }

  static void nothingChanges() {
    GateGroup x = Kit.of(NET, "at 5 down b;at 90 up b;at 100 cut l;");
    x.chance(10, 5);
    x.ticks(30);
    int[] before = picture(x);
    x.ahead(0, 300); x.fails(0, 0, 0); x.fails(1, 2, 1); x.worst(0, 0); x.worst(1, 1); x.settles(); x.least(0, 1); x.flaps(0, 500);
    x.needs(0, 0); x.letters(500); x.stands(0, 0, 500); x.returns(0, 1); x.under(0, 0, 3); x.rank(0, 1);
    int[] after = picture(x);
    for (int i = 0; i < before.length; i++) due("28 to 39 nothing changes, " + i, after[i], before[i]);
  }

  static int[] picture(GateGroup x) {
    int[] all = new int[16 + 5 * 9 + 30 * 8 + 240];
    int n = 0;
    for (int w = 0; w < 16; w++) all[n++] = x.has(w);
    for (int g = 0; g < 5; g++) for (int w = 0; w < 9; w++) all[n++] = x.group(g, w);
    for (int g = 0; g < 5; g++) for (int k = 0; k < 6; k++) for (int w = 0; w < 8; w++) all[n++] = x.member(g, k, w);
    for (int i = 0; i < 60; i++) for (int w = 0; w < 4; w++) all[n++] = x.log(i, w);
    return all;
  }

  static void tooLate() {
    GateGroup x = Kit.of(NET);
    Kit.till(x, 9399);
    due("31 600 TICKS to 9999", x.settles(), 0);
    x.ticks(1);
    due("31 beyond", x.settles(), -1);
    Kit.till(x, 9699);
    due("32 300 TICKS to 9999", x.least(0, 0), 201);
    due("34", x.needs(0, 0), 1);
    due("38", x.under(0, 0, 1), 0);
    due("28", x.ahead(0, 300), 2);
    due("28 beyond", x.ahead(0, 301), -1);
    due("33", x.flaps(0, 300), 0);
    due("33 beyond", x.flaps(0, 301), -1);
    due("35", x.letters(300), 250);
    due("35 beyond", x.letters(301), -1);
    due("36", x.stands(0, 1, 300), 300);
    due("36 beyond", x.stands(0, 1, 301), -1);
    x.ticks(1);
    due("32 beyond", x.least(0, 0), -1);
    due("34 beyond", x.needs(0, 0), -1);
    due("38 beyond", x.under(0, 0, 1), -1);
    Kit.till(x, 9991);
    // b sent at 9990: a would begin in the eighth TICK, 9998
    due("29 to 9999", x.fails(0, 1, 0), 8);
    x.ticks(1);
    due("29 one TICK less to wait for, and to go", x.fails(0, 1, 0), 7);
    x.ticks(1);
    due("29 b sent anew", x.fails(0, 1, 0), -1);
    due("30", x.worst(0, 0), -1);
    due("30", x.worst(0, 1), 1);
    x.down(2, false);
    due("37", x.returns(1, 2), 0);
    x.down(1, false);
    due("37 PATIENCE 6", x.returns(0, 1), -1);
    Kit.till(x, 9999);
    due("28", x.ahead(0, 0), 0);
    due("28 beyond", x.ahead(0, 1), -1);
    due("37", x.returns(1, 2), 0);
  }

  static void noneSuch() {
    GateGroup x = Kit.of(NET);
    int[][] pairs = {{-1, 0}, {2, 0}, {0, -1}, {0, 3}, {Integer.MAX_VALUE, 0}, {0, Integer.MAX_VALUE}, {Integer.MIN_VALUE, Integer.MIN_VALUE}};
    for (int[] p : pairs) {
      due("29", x.fails(p[0], p[1], 0), -1);
      due("32", x.least(p[0], p[1]), -1);
      due("34", x.needs(p[0], p[1]), -1);
      due("36", x.stands(p[0], p[1], 5), -1);
      due("37", x.returns(p[0], p[1]), -1);
      due("38", x.under(p[0], p[1], 0), -1);
    }
    int[] groups = {-1, 2, 5, Integer.MAX_VALUE, Integer.MIN_VALUE};
    for (int g : groups) {
      due("28", x.ahead(g, 5), -1);
      due("30", x.worst(g, 0), -1);
      due("33", x.flaps(g, 5), -1);
    }
  }
}
