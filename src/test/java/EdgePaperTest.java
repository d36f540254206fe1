/** A test for each sentence of promises 28 to 39 that names an edge: what would be. */
public final class EdgePaperTest {
  static final int LEAST = Integer.MIN_VALUE;
  static final int MOST = Integer.MAX_VALUE;
  static final int[] NO_GROUPS = {-1, 2, 5, LEAST, MOST};
  static final int[][] NO_PAIRS = {{-1, 0}, {2, 0}, {0, -1}, {0, 3}, {0, 6}, {LEAST, 0}, {MOST, 0}, {0, LEAST}, {0, MOST}};
  /** a HOLDS g from TICK 0 on; b WAITS, its PATIENCE is 3; c is no MEMBER; h has none. */
  static final String PAIR = "gate a;gate b;gate c;link l;link m;group g every 1;group h every 1;member a of g word 255;member b of g word 254;";

  public static void main(String[] args) throws Exception {
    Kit.runEach(EdgePaperTest.class, "promise28", "promise29", "promise30", "promise31", "promise32", "promise33", "promise34", "promise35", "promise36",
        "promise37", "promise38", "promise39");
  }

  static void due(String call, long got, long want) { Kit.due(call, got, want); }

  static GateGroup at(int tick, String... texts) { return Kit.till(Kit.of(texts), tick); }

  // ---- ahead

  static void promise28From0To500() {
    GateGroup x = Kit.of("gate a;group g every 1;group h every 1;member a of g word 254;");
    due("0", x.ahead(0, 0), 0);
    due("3", x.ahead(0, 3), 0);
    due("4", x.ahead(0, 4), 1);
    due("500", x.ahead(0, 500), 1);
    due("no MEMBERS", x.ahead(1, 500), 0);
    for (int n : new int[] {-1, 501, LEAST, MOST}) due("n " + n, x.ahead(0, n), -1);
    for (int g : NO_GROUPS) due("GROUP " + g, x.ahead(g, 0), -1);
    due("without a NET", new GateGroup().ahead(0, 0), -1);
  }

  static void promise28NotBeyond9999() {
    GateGroup x = at(9499, PAIR);
    due("to 9999", x.ahead(0, 500), 1);
    x.ticks(1);
    due("to 10000", x.ahead(0, 500), -1);
    due("to 9999", x.ahead(0, 499), 1);
    Kit.till(x, 9999);
    due("0", x.ahead(0, 0), 1);
    due("1", x.ahead(0, 1), -1);
  }

  static void promise28ThePlanGoesOn() {
    GateGroup x = at(10, PAIR, "at 5 down b;at 12 down a;at 13 up b;");
    due("now", x.ahead(0, 0), 1);
    due("behind TICK 11", x.ahead(0, 2), 1);
    due("behind TICK 12", x.ahead(0, 3), 0);
    due("b, up at 13, begins at 16", x.ahead(0, 6), 0);
    due("b", x.ahead(0, 7), 2);
    due("the EVENTS are still to come", x.has(6), 5);
  }

  // ---- fails

  static void promise29Behind0() {
    GateGroup x = at(1, PAIR);
    due("a HOLDS it", x.fails(0, 1, 0), 0);
    due("who", x.fails(0, 1, 1), 0);
    due("one that is no MEMBER", x.fails(0, 2, 0), 0);
    due("who", x.fails(0, 2, 1), 0);
  }

  static void promise29BehindTheClock() {
    GateGroup x = at(1, PAIR);
    due("CLOCK 3", x.member(0, 1, 4), 3);
    due("the fourth TICK", x.fails(0, 0, 0), 4);
    due("who", x.fails(0, 0, 1), 1);
  }

  static void promise29By500() {
    String net = "gate a;gate b;group g every 1;member a of g word 255;member b of g word 255;";
    GateGroup x = Kit.of(net);
    x.down(1, false);
    Kit.plan(x, "at 499 up b;");
    due("500", x.fails(0, 0, 0), 500);
    due("who", x.fails(0, 0, 1), 1);
    Kit.plan(x, "at 500 up b;");
    due("501", x.fails(0, 0, 0), -1);
    due("who", x.fails(0, 0, 1), -1);
  }

  static void promise29NotBeyond9999() {
    String net = "gate a;gate b;group g every 1;member a of g word 255;member b of g word 254;";
    GateGroup x = at(9995, net);
    due("at 9999", x.fails(0, 0, 0), 4);
    x.ticks(1);
    due("at 10000", x.fails(0, 0, 0), -1);
    due("who", x.fails(0, 0, 1), -1);
    Kit.till(x, 9999);
    due("another one HOLDS now", x.fails(0, 1, 0), 0);
    due("who", x.fails(0, 1, 1), 0);
    due("none other", x.fails(0, 0, 0), -1);
  }

  static void promise29TheStrongest() {
    GateGroup x = Kit.of("gate a;gate b;gate c;gate d;group g every 9;member a of g word 255;member b of g word 255;member c of g word 255;member d of g word 255;");
    due("of like ones", x.fails(0, 0, 1), 3);
    due("of the others", x.fails(0, 3, 1), 2);
    x.word(0, 1, 255);
    x.word(0, 2, 200);
    due("by WORD", x.fails(0, 3, 1), 1);
  }

  static void promise29InItsPart() {
    GateGroup x = Kit.of("gate a;gate b;gate c;group g every 9;member a of g word 255;member b of g word 255;member c of g word 255;");
    x.split(4);
    due("b", x.fails(0, 0, 1), 1);
    due("none other", x.fails(0, 2, 0), -1);
    due("none other", x.fails(0, 2, 1), -1);
    x.down(1, false);
    due("c is in another PART", x.fails(0, 0, 0), -1);
  }

  static void promise29ItselfIsNoOther() {
    GateGroup x = at(1, "gate a;group g every 1;member a of g word 255;", "at 5 up a;");
    due("a comes up again", x.fails(0, 0, 0), -1);
    due("who", x.fails(0, 0, 1), -1);
  }

  static void promise29NotGently() {
    GateGroup x = at(1, "gate a;gate b;group g every 40;member a of g word 255;member b of g word 254;");
    due("PATIENCE, not SKEW", x.fails(0, 0, 0), 121);
  }

  static void promise29NoneSuchDownAndOthers() {
    GateGroup x = at(1, PAIR);
    for (int[] n : NO_PAIRS) for (int w = 0; w < 2; w++) due("fails(" + n[0] + ", " + n[1] + ")", x.fails(n[0], n[1], w), -1);
    for (int w : new int[] {-1, 2, LEAST, MOST}) due("what " + w, x.fails(0, 1, w), -1);
    due("no MEMBERS", x.fails(1, 0, 0), -1);
    x.down(1, false);
    due("it is down", x.fails(0, 1, 0), -1);
    due("it is down", x.fails(0, 1, 1), -1);
    due("without a NET", new GateGroup().fails(0, 0, 0), -1);
  }

  // ---- worst

  static void promise30LongestAndWhose() {
    GateGroup x = at(1, PAIR);
    due("longest", x.worst(0, 0), 4);
    due("whose", x.worst(0, 1), 0);
    GateGroup y = Kit.of("gate a;gate b;gate c;group g every 9;member a of g word 255;member b of g word 255;member c of g word 255;");
    due("like ones", y.worst(0, 0), 0);
    due("the first", y.worst(0, 1), 0);
    y.down(0, false);
    due("the first that is up", y.worst(0, 1), 1);
  }

  static void promise30NoneOrNotBy500() {
    GateGroup x = at(1, PAIR);
    due("no MEMBERS", x.worst(1, 0), -1);
    due("no MEMBERS", x.worst(1, 1), -1);
    x.down(1, false);
    due("a alone", x.worst(0, 0), -1);
    due("its GATE", x.worst(0, 1), 0);
    x.down(0, false);
    due("none is up", x.worst(0, 0), -1);
    due("none is up", x.worst(0, 1), -1);
    // b is alone in its PART, a and c would be longer than 0
    GateGroup y = at(1, "gate a;gate b;gate c;group g every 1;member a of g word 254;member b of g word 253;member c of g word 255;");
    y.split(2);
    due("not by 500", y.worst(0, 0), -1);
    due("b", y.worst(0, 1), 1);
  }

  static void promise30At500() {
    GateGroup x = Kit.of("gate a;gate b;group g every 1;member a of g word 255;member b of g word 255;");
    x.down(1, false);
    Kit.plan(x, "at 499 up b;");
    due("500", x.worst(0, 0), 500);
    due("a", x.worst(0, 1), 0);
    Kit.plan(x, "at 500 up b;");
    due("501", x.worst(0, 0), -1);
    due("a", x.worst(0, 1), 0);
  }

  static void promise30NoneSuchAndOthers() {
    GateGroup x = at(1, PAIR);
    for (int g : NO_GROUPS) for (int w = 0; w < 2; w++) due("GROUP " + g, x.worst(g, w), -1);
    for (int w : new int[] {-1, 2, LEAST, MOST}) due("what " + w, x.worst(0, w), -1);
    due("without a NET", new GateGroup().worst(0, 0), -1);
  }

  // ---- settles

  static void promise31Behind0() {
    due("nothing at all", Kit.of("").settles(), 0);
    due("what began at TICK 0 is over", Kit.of(PAIR).settles(), 0);
    GateGroup x = Kit.of("gate a;group g every 1;member a of g word 255;", "at 100 down a;at 100 up a;");
    due("100 TICKS, 0 to 99", x.settles(), 0);
    x.ticks(1);
    due("TICKS 1 to 100", x.settles(), 100);
  }

  static void promise31LeastOf0To500() {
    String calm = "at 99 down a;at 99 up a;at 199 down a;at 199 up a;at 299 down a;at 299 up a;at 399 down a;at 399 up a;";
    GateGroup x = Kit.of("gate a;group g every 1;member a of g word 255;", calm + "at 499 down a;at 499 up a;");
    due("500", x.settles(), 500);
    Kit.plan(x, calm + "at 499 down a;at 500 up a;");
    due("501, but 400 has 100 calm TICKS", x.settles(), 400);
    Kit.plan(x, calm + "at 450 down a;at 450 up a;at 500 down a;at 500 up a;");
    due("501", x.settles(), -1);
    Kit.plan(x, calm + "at 499 down a;at 499 up a;at 599 down a;at 599 up a;");
    due("not by 500", x.settles(), -1);
    Kit.plan(x, calm + "at 499 down a;at 499 up a;at 600 down a;at 600 up a;");
    due("500", x.settles(), 500);
  }

  static void promise31ToGiveUpCountsToGoDownDoesNot() {
    GateGroup x = Kit.of("gate a;group g every 1;member a of g word 255;", "at 50 down a;");
    due("to go down", x.settles(), 0);
    GateGroup y = Kit.of("gate a;gate b;group g every 1;member a of g word 255;member b of g word 254;");
    y.split(1);
    y.ticks(10);
    y.split(0);
    due("b gives up", y.settles(), 1);
  }

  static void promise31NotBeyond9999() {
    GateGroup x = at(9399, PAIR);
    due("600 TICKS to 9999", x.settles(), 0);
    x.ticks(1);
    due("to 10000", x.settles(), -1);
    due("without a NET", new GateGroup().settles(), -1);
  }

  // ---- least

  static void promise32From1To254() {
    due("1, alone", Kit.of("gate a;group g every 1;member a of g word 9;").least(0, 0), 1);
    due("1, of like words the greater number", Kit.of("gate a;gate b;group g every 1;member a of g word 1;member b of g word 9;").least(0, 1), 1);
    due("2", Kit.of("gate a;gate b;group g every 1;member a of g word 9;member b of g word 1;").least(0, 0), 2);
    due("254", Kit.of("gate a;gate b;group g every 1;member a of g word 9;member b of g word 253;").least(0, 0), 254);
    due("255 is not sought", Kit.of("gate a;gate b;group g every 1;member a of g word 9;member b of g word 254;").least(0, 0), -1);
    due("of like ones 254", Kit.of("gate a;gate b;group g every 1;member a of g word 254;member b of g word 9;").least(0, 1), 254);
    due("not against 255", at(1, PAIR).least(0, 1), -1);
  }

  static void promise32In300Ticks() {
    GateGroup x = Kit.of("gate a;group g every 1;member a of g word 9;", "at 0 down a;at 296 up a;");
    due("begins at 299", x.least(0, 0), 1);
    Kit.plan(x, "at 0 down a;at 297 up a;");
    due("begins at 300", x.least(0, 0), -1);
    GateGroup y = Kit.of("gate a;group g every 40;member a of g word 9;", "at 0 down a;at 179 up a;");
    // PATIENCE must be 120 to begin at 299: SKEW 0 from 250 on
    due("250", y.least(0, 0), 250);
  }

  static void promise32NoneSuch() {
    GateGroup x = at(1, PAIR);
    for (int[] n : NO_PAIRS) due("least(" + n[0] + ", " + n[1] + ")", x.least(n[0], n[1]), -1);
    due("no MEMBER", x.least(0, 2), -1);
    due("no MEMBERS", x.least(1, 0), -1);
    due("without a NET", new GateGroup().least(0, 0), -1);
  }

  static void promise32NotBeyond9999() {
    GateGroup x = at(9699, PAIR.replace("word 254", "word 253"));
    due("to 9999", x.least(0, 0), 254);
    x.ticks(1);
    due("to 10000", x.least(0, 0), -1);
  }

  // ---- flaps

  static void promise33From1To500() {
    GateGroup x = Kit.of("gate a;group g every 1;group h every 1;member a of g word 254;", "at 499 down a;at 499 word a of g 255;at 499 up a;");
    due("1", x.flaps(0, 1), 0);
    due("3", x.flaps(0, 3), 0);
    due("4", x.flaps(0, 4), 1);
    due("499", x.flaps(0, 499), 1);
    due("500", x.flaps(0, 500), 2);
    for (int n : new int[] {0, -1, 501, LEAST, MOST}) due("n " + n, x.flaps(0, n), -1);
    for (int g : NO_GROUPS) due("GROUP " + g, x.flaps(g, 1), -1);
    due("no MEMBERS", x.flaps(1, 500), 0);
    due("without a NET", new GateGroup().flaps(0, 1), -1);
  }

  static void promise33NotBeyond9999() {
    GateGroup x = at(9499, PAIR);
    due("to 9999", x.flaps(0, 500), 0);
    x.ticks(1);
    due("to 10000", x.flaps(0, 500), -1);
    Kit.till(x, 9999);
    due("one more", x.flaps(0, 1), -1);
  }

  // ---- needs

  static void promise34AlsoNobody() {
    // up anew at 150, a begins at 270 with PATIENCE 120, at 309 with 159
    GateGroup x = Kit.of("gate a;link k;link l;group g every 40;member a of g word 254;track a of g by l less 253;", "at 150 down a;at 150 up a;");
    due("l", x.needs(0, 0), 2);
    due("in 300 TICKS", x.ahead(0, 300), 1);
    due("nobody", x.under(0, 0, 2), -1);
  }

  static void promise34AnotherOne() {
    String net = "gate a;gate b;link k;link l;link m;group g every 1;member a of g word 9;member b of g word 8;track a of g by k less 1;track a of g by l less 2;";
    GateGroup x = at(20, net);
    due("k: like words, b is STRONGER; l", x.needs(0, 0), 3);
    x.split(1);
    due("each in its PART", x.needs(0, 0), 0);
    due("each in its PART", x.needs(0, 1), 0);
  }

  static void promise34CutAloneBesideThoseThatAreCut() {
    String net = "gate a;gate b;link k;link l;group g every 1;member a of g word 9;member b of g word 8;track a of g by k less 8;track b of g by l less 7;";
    GateGroup x = at(20, net);
    due("k", x.needs(0, 0), 1);
    x.cut(0, true);
    x.ticks(20);
    due("b HOLDS with 8 now: l leaves 1, of like words b", x.needs(0, 0), 0);
    x.word(0, 1, 1);
    due("one that is cut already changes nothing", x.needs(0, 0), 0);
    GateGroup y = at(20, net.replace("less 8", "less 7"));
    y.cut(0, true);
    y.ticks(20);
    due("a has 2, b has 1 by l", y.needs(0, 0), 2);
  }

  static void promise34AllLinksAndNone() {
    StringBuilder net = new StringBuilder("gate a;gate b;" + EdgeTextTest.LINKS + "group g every 1;member a of g word 9;member b of g word 8;");
    for (char l = 'm'; l <= 't'; l++) net.append("track a of g by " + l + " less 1;");
    due("all eight", at(20, net.toString()).needs(0, 0), 255);
    due("no LINKS", Kit.of("gate a;group g every 1;member a of g word 9;").needs(0, 0), 0);
  }

  static void promise34NoneSuch() {
    GateGroup x = at(1, PAIR);
    for (int[] n : NO_PAIRS) due("needs(" + n[0] + ", " + n[1] + ")", x.needs(n[0], n[1]), -1);
    due("of no MEMBER's PART", x.needs(0, 2), 0);
    due("no MEMBERS", x.needs(1, 0), 0);
    due("without a NET", new GateGroup().needs(0, 0), -1);
  }

  static void promise34NotBeyond9999() {
    GateGroup x = at(9699, PAIR);
    due("to 9999", x.needs(0, 0), 0);
    x.ticks(1);
    due("to 10000", x.needs(0, 0), -1);
  }

  // ---- letters

  static void promise35From1To500() {
    GateGroup x = Kit.of(PAIR);
    due("1", x.letters(1), 1);
    due("500", x.letters(500), 500);
    for (int n : new int[] {0, -1, 501, LEAST, MOST}) due("n " + n, x.letters(n), -1);
    due("no GROUPS", Kit.of("").letters(500), 0);
    due("without a NET", new GateGroup().letters(1), -1);
    x.ticks(9);
    due("not those so far", x.letters(1), 1);
  }

  static void promise35NotBeyond9999() {
    GateGroup x = at(9499, PAIR);
    due("to 9999", x.letters(500), 500);
    x.ticks(1);
    due("to 10000", x.letters(500), -1);
    due("to 9999", x.letters(499), 499);
    Kit.till(x, 9999);
    due("one more", x.letters(1), -1);
  }

  // ---- stands

  static void promise36From1To500() {
    GateGroup x = Kit.of("gate a;gate b;group g every 1;group h every 1;member a of g word 254;");
    due("1", x.stands(0, 0, 1), 0);
    due("3", x.stands(0, 0, 3), 0);
    due("4", x.stands(0, 0, 4), 1);
    due("500", x.stands(0, 0, 500), 497);
    for (int n : new int[] {0, -1, 501, LEAST, MOST}) due("n " + n, x.stands(0, 0, n), -1);
    for (int[] n : NO_PAIRS) due("stands(" + n[0] + ", " + n[1] + ")", x.stands(n[0], n[1], 1), -1);
    due("no MEMBER", x.stands(0, 1, 1), -1);
    due("without a NET", new GateGroup().stands(0, 0, 1), -1);
    x.down(0, false);
    due("down", x.stands(0, 0, 500), 0);
  }

  static void promise36NotBeyond9999() {
    GateGroup x = at(9499, PAIR);
    due("to 9999", x.stands(0, 0, 500), 500);
    x.ticks(1);
    due("to 10000", x.stands(0, 0, 500), -1);
    Kit.till(x, 9998);
    due("the last TICK", x.stands(0, 0, 1), 1);
    x.ticks(1);
    due("one more", x.stands(0, 0, 1), -1);
  }

  static void promise36BetweenLettersFarApart() {
    GateGroup x = Kit.of("gate a;group g every 40;member a of g word 255;");
    for (int n : new int[] {1, 39, 40, 41, 60, 499}) due("n " + n, x.stands(0, 0, n), n);
    x.ticks(5);
    for (int n : new int[] {1, 35, 36, 60, 500}) due("n " + n, x.stands(0, 0, n), n);
  }

  static void promise36BehindTicksOfThePlan() {
    GateGroup x = at(1, PAIR, "at 10 down a;at 20 up a;");
    due("behind 1 .. 9 and 20 .. 100", x.stands(0, 0, 100), 90);
    // read at 9 latest: CLOCK 3 behind it, it begins at 13, gives up at 20
    due("behind 13 .. 19", x.stands(0, 1, 100), 7);
  }

  // ---- returns

  static void promise37Behind0AndOn() {
    GateGroup x = Kit.of("gate a;gate b;group g every 1;group h every 1;member a of g word 255;member a of h word 254;");
    due("it is up", x.returns(0, 0), -1);
    x.down(0, false);
    due("255 at once", x.returns(0, 0), 0);
    due("254 behind PATIENCE", x.returns(1, 0), 4);
    x.down(1, false);
    due("no MEMBER", x.returns(0, 1), -1);
    for (int[] n : NO_PAIRS) due("returns(" + n[0] + ", " + n[1] + ")", x.returns(n[0], n[1]), -1);
    due("without a NET", new GateGroup().returns(0, 0), -1);
  }

  static void promise37By500() {
    String net = "gate a;gate b;group g every 1;member a of g word 100;member b of g word 200;";
    GateGroup x = Kit.of(net);
    x.ticks(10);
    x.down(0, false);
    due("never", x.returns(0, 0), -1);
    // b goes down at TICK t, having sent at t - 1: a begins at t + 3
    Kit.plan(x, "at 506 down b;");
    due("500", x.returns(0, 0), 500);
    Kit.plan(x, "at 507 down b;");
    due("501", x.returns(0, 0), -1);
  }

  static void promise37NotBeyond9999() {
    GateGroup x = Kit.of("gate a;group g every 1;group h every 1;member a of g word 254;member a of h word 255;");
    x.down(0, false);
    Kit.till(x, 9995);
    due("at 9999", x.returns(0, 0), 4);
    x.ticks(1);
    due("at 10000", x.returns(0, 0), -1);
    Kit.till(x, 9999);
    due("0", x.returns(1, 0), 0);
    due("never", x.returns(0, 0), -1);
  }

  // ---- under

  static void promise38JustTheseLinks() {
    String net = "gate a;gate b;gate c;link k;link l;group g every 1;group h every 1;member a of g word 9;member b of g word 8;track a of g by k less 2;";
    GateGroup x = at(20, net);
    due("none", x.under(0, 0, 0), 0);
    due("k", x.under(0, 0, 1), 1);
    due("l", x.under(0, 0, 2), 0);
    due("both", x.under(0, 0, 3), 1);
    x.cut(0, true);
    due("none: k is whole then", x.under(0, 0, 0), 0);
    due("l: k is whole then", x.under(0, 0, 2), 0);
    for (int bits : new int[] {4, 5, 256, -1, LEAST, MOST}) due("bits " + bits, x.under(0, 0, bits), -1);
    due("it is cut still", x.has(7), 1);
  }

  static void promise38NobodyAndNoneSuch() {
    GateGroup x = at(1, PAIR);
    for (int[] n : NO_PAIRS) due("under(" + n[0] + ", " + n[1] + ")", x.under(n[0], n[1], 0), -1);
    due("no MEMBERS", x.under(1, 0, 0), -1);
    due("of no MEMBER's PART", x.under(0, 2, 0), 0);
    x.split(4);
    due("nobody there", x.under(0, 2, 0), -1);
    due("a", x.under(0, 1, 3), 0);
    due("no LINKS", Kit.of("gate a;group g every 1;").under(0, 0, 1), -1);
    due("without a NET", new GateGroup().under(0, 0, 0), -1);
  }

  static void promise38AllEightLinks() {
    GateGroup x = Kit.of("gate a;" + EdgeTextTest.LINKS + "group g every 1;member a of g word 9;");
    due("255", x.under(0, 0, 255), 0);
    due("256", x.under(0, 0, 256), -1);
  }

  static void promise38NotBeyond9999() {
    GateGroup x = at(9699, PAIR);
    due("to 9999", x.under(0, 0, 0), 0);
    x.ticks(1);
    due("to 10000", x.under(0, 0, 0), -1);
  }

  // ---- rank

  static void promise39From0OnUpOrDown() {
    GateGroup x = Kit.of("gate a;gate b;gate c;gate d;link l;group g every 1;group h every 1;member a of g word 9;member c of g word 9;member d of g word 200;track d of g by l less 191;");
    int[] want = {3, 2, 0};
    for (int k = 0; k < 3; k++) due("k " + k, x.rank(0, k), want[k]);
    x.down(3, false);
    for (int k = 0; k < 3; k++) due("d is down, k " + k, x.rank(0, k), want[k]);
    x.cut(0, true);
    due("like words now", x.rank(0, 0), 3);
    x.word(0, 0, 10);
    int[] then = {0, 3, 2};
    for (int k = 0; k < 3; k++) due("k " + k, x.rank(0, k), then[k]);
    for (int k : new int[] {-1, 3, 4, 6, LEAST, MOST}) due("k " + k, x.rank(0, k), -1);
    for (int g : NO_GROUPS) due("GROUP " + g, x.rank(g, 0), -1);
    due("no MEMBERS", x.rank(1, 0), -1);
    due("without a NET", new GateGroup().rank(0, 0), -1);
  }

  static void promise39SixMembers() {
    GateGroup x = Kit.of(EdgeTextTest.GATES + "group g every 1;" + EdgeTextTest.members(1));
    for (int k = 0; k < 6; k++) due("k " + k, x.rank(0, k), 5 - k);
    due("no seventh", x.rank(0, 6), -1);
  }

  // ---- all of them

  /** All on paper leave what is, the tape and the FAULT; DRAWS are made from x as it is. */
  static void promise28To39LeaveAllAsItIs() {
    GateGroup x = at(7, PAIR, "at 9 down a;at 50 cut l;at 60 up a;at 70 split b;");
    x.chance(40, 123);
    x.ticks(3);
    x.down(2, false);
    int[] before = Kit.picture(x);
    int[] first = onPaper(x);
    Kit.same("what is", Kit.picture(x), before);
    Kit.same("asked again", onPaper(x), first);
    due("ACTS", x.has(13), 5);
  }

  static int[] onPaper(GateGroup x) {
    return new int[] {x.ahead(0, 300), x.fails(0, 0, 0), x.fails(0, 1, 0), x.fails(0, 1, 1), x.worst(0, 0), x.worst(0, 1), x.settles(), x.least(0, 0), x.least(0, 1),
        x.flaps(0, 500), x.needs(0, 0), x.letters(500), x.stands(0, 0, 500), x.stands(0, 1, 500), x.returns(0, 0), x.under(0, 0, 3), x.under(0, 1, 0), x.rank(0, 0)};
  }

  /** By chance 0 GROUPS don't touch one another, so that one may be run by itself; those asked for later must not miss any. */
  static void promise28To39WhicheverGroupWasAskedForAheadOfIt() {
    GateGroup x = Kit.of("gate a;group g every 1;group h every 2;group i every 4;member a of g word 255;member a of h word 255;member a of i word 255;", "at 50 down a;at 51 up a;");
    for (int g = 0; g < 3; g++) {
      due("28 ahead", x.ahead(g, 60), 1);
      due("35 letters", x.letters(40), 70);
      due("31 settles", x.settles(), 52);
      x.ticks(40);
      due("7 letters", x.has(14), 70);
      x.undo();
    }
  }

  /** A letter of delay's last TICK that is LOST makes a wait longer: DRAWS of all GROUPS count, by the least chance, too. */
  static void promise28To39DrawsOfAllGroups() {
    GateGroup x = Kit.of("gate a;gate b;gate c;group g every 1;group h every 1 delay 5;member a of g word 255;member b of g word 254;member c of g word 254;"
        + "member a of h word 9;member b of h word 200;");
    x.down(1, false);
    x.ticks(10);
    x.up(1);
    for (int chance : new int[] {1, 2, 99}) for (int seed = 0; seed < 300; seed++) {
      x.ahead(0, 1);
      x.chance(chance, seed);
      int held = x.ahead(1, 6);
      x.ticks(6);
      due("28 ahead by " + chance + ", " + seed, x.group(1, 8), held);
      x.undo();
      x.undo();
    }
  }

  static void promise28To39AsItWillBe() {
    GateGroup x = at(1, PAIR + "member c of g word 100;member a of h word 3;member c of h word 9;", "at 40 down a;at 90 up a;at 95 split a b;at 120 heal;");
    x.chance(55, 99);
    for (int n : new int[] {1, 2, 39, 40, 100, 300}) {
      int held = x.ahead(0, n);
      int takes = x.group(0, 7) + x.flaps(0, n);
      int sent = x.has(14) + x.letters(n);
      x.ticks(n);
      due("28 ahead", x.group(0, 8), held);
      due("33 flaps", x.group(0, 7), takes);
      due("35 letters", x.has(14), sent);
      x.undo();
    }
    int under = x.under(0, 0, 1);
    int fails = x.fails(0, 0, 0);
    x.cut(0, true);
    x.ticks(300);
    due("38 under", x.holder(0, 0), under);
    x.undo();
    x.undo();
    x.down(0, false);
    if (fails > 0) x.ticks(fails);
    due("29 fails", x.group(0, 8) != 0 ? 1 : 0, 1);
    due("29 by 500", fails >= 0 ? 1 : 0, 1);
  }
}
