/** A test for each sentence of Terms I and of promises 1 to 6, 10 to 12 that names an edge; ^ stands where a FAULT is due. */
public final class EdgeTextTest {
  static final String BASE = "gate a;gate b;link l;group g every 4;group h every 3;member a of g word 9;member b of g word 8;";
  static final String GATES = "gate a;gate b;gate c;gate d;gate e;gate f;";
  static final String LINKS = "link m;link n;link o;link p;link q;link r;link s;link t;";
  static final String GROUPS = "group g every 1;group h every 1;group i every 1;group j every 1;group k every 1;";
  static final String[] OWN = "gate link group every delay keeps slots member of word share track by less at up down cut mend split heal".split(" ");

  public static void main(String[] args) throws Exception {
    Kit.runEach(EdgeTextTest.class, "terms1", "promise01", "promise02", "promise03", "promise04", "promise05", "promise06", "promise10", "promise11", "promise12");
  }

  static void due(String call, long got, long want) { Kit.due(call, got, want); }

  static GateGroup good(int groups, String text) {
    GateGroup x = new GateGroup();
    due("net " + text, Kit.net(x, text), groups);
    due("FAULT of " + text, x.fault(0), 0);
    due("place in " + text, x.fault(1), -1);
    return x;
  }

  static void bad(int fault, String text) {
    GateGroup x = new GateGroup();
    due("net " + text, Kit.net(x, text.replace("^", "")), -1);
    due("FAULT of " + text, x.fault(0), fault);
    due("place in " + text, x.fault(1), text.indexOf('^'));
    due("no NET by " + text, x.has(0), -1);
  }

  static GateGroup goodPlan(int events, String text) {
    GateGroup x = Kit.of(BASE);
    due("plan " + text, Kit.plan(x, text), events);
    due("FAULT of " + text, x.fault(0), 0);
    due("EVENTS of " + text, x.has(11), events);
    return x;
  }

  static void badPlan(int fault, String text) {
    GateGroup x = Kit.of(BASE);
    due("plan " + text, Kit.plan(x, text.replace("^", "")), -1);
    due("FAULT of " + text, x.fault(0), fault);
    due("place in " + text, x.fault(1), text.indexOf('^'));
    due("no EVENTS by " + text, x.has(11), 0);
  }

  static String members(int groups) {
    StringBuilder s = new StringBuilder();
    for (int g = 0; g < groups; g++) for (char k = 'a'; k <= 'f'; k++) s.append("member ").append(k).append(" of ").append((char) ('g' + g)).append(" word 1;");
    return s.toString();
  }

  /** TRACKS of GROUP g, by GATES and LINKS. */
  static String tracks(int n) {
    StringBuilder s = new StringBuilder();
    for (int t = 0; t < n; t++) s.append("track ").append((char) ('a' + t / 8)).append(" of g by ").append((char) ('m' + t % 8)).append(" less 1;");
    return s.toString();
  }

  static String times(int n, String text) {
    StringBuilder s = new StringBuilder();
    for (int i = 0; i < n; i++) s.append(text);
    return s.toString();
  }

  // ---- Terms I: what a NET may hold

  static void terms1EmptyTextIsANet() {
    for (String t : new String[] {"", " ", "\n", " \n  \n"}) due("GATES of " + t.length() + " blanks", good(0, t).has(0), 0);
  }

  static void terms1SixGates() {
    due("6 GATES", good(0, GATES).has(0), 6);
    bad(6, GATES + "^gate z;");
    bad(6, GATES + "link l; \n ^gate z;");
  }

  static void terms1EightLinks() {
    due("8 LINKS", good(0, LINKS).has(1), 8);
    bad(6, LINKS + "^link z;");
  }

  static void terms1FiveGroups() {
    due("5 GROUPS", good(5, GROUPS).has(2), 5);
    bad(6, GROUPS + "^group z every 1;");
  }

  static void terms1SixEightAndFiveAtOnce() {
    GateGroup x = good(5, GATES + LINKS + GROUPS);
    due("LINKS", x.letter(1, 7, 0), 20);
    bad(6, GATES + LINKS + GROUPS + "^gate z;");
    bad(6, GATES + LINKS + GROUPS + "^link z;");
    bad(6, GATES + LINKS + GROUPS + "^group z every 1;");
  }

  static void terms1EveryFrom1To40() {
    due("every 1", good(1, "group g every 1;").group(0, 0), 1);
    due("every 40", good(1, "group g every 40;").group(0, 0), 40);
    bad(4, "group g every ^0;");
    bad(4, "group g every ^41;");
    bad(4, "group g every ^9999;");
  }

  static void terms1DelayFrom0To99() {
    due("delay 0", good(1, "group g every 1 delay 0;").group(0, 1), 0);
    due("delay 99", good(1, "group g every 1 delay 99;").group(0, 1), 99);
    bad(4, "group g every 1 delay ^100;");
  }

  static void terms1DelayIs0WithoutAndWithKeeps() {
    GateGroup x = good(3, "group g every 1;group h every 1 keeps;group i every 1 slots 2;");
    for (int g = 0; g < 3; g++) { due("delay", x.group(g, 1), 0); due("keeps", x.group(g, 2), g == 1 ? 1 : 0); }
  }

  static void terms1DelayOrKeepsThenSlots() {
    GateGroup x = good(2, "group g every 1 delay 7 slots 3;group h every 1 keeps slots 4;");
    due("delay", x.group(0, 1), 7);
    due("slots", x.group(0, 3), 3);
    due("slots", x.group(1, 3), 4);
    bad(1, "group g every 1 delay 7 ^keeps;");
    bad(1, "group g every 1 keeps ^delay 7;");
    bad(1, "group g every 1 keeps ^keeps;");
    bad(1, "group g every 1 slots 3 ^delay 7;");
    bad(1, "group g every 1 slots 3 ^keeps;");
    bad(1, "group g every 1 slots 3 ^slots 3;");
    bad(1, "group g every 1 delay 7 ^delay 7;");
  }

  static void terms1SlotsFrom1To8() {
    due("slots 1", good(1, "group g every 1 slots 1;").group(0, 3), 1);
    due("slots 8", good(1, "group g every 1 slots 8;").group(0, 3), 8);
    due("slots without", good(1, "group g every 1;").group(0, 3), 1);
    bad(4, "group g every 1 slots ^0;");
    bad(4, "group g every 1 slots ^9;");
  }

  static void terms1GateOnceInAGroup() {
    due("in another GROUP", good(2, BASE + "member a of h word 9;").has(3), 3);
    bad(5, BASE + "member ^a of g word 9;");
    bad(5, BASE + "member ^b of g word 1;");
  }

  static void terms1WordFrom1To255() {
    due("word 1", good(2, BASE + "member a of h word 1;").member(1, 0, 0), 1);
    due("word 255", good(2, BASE + "member a of h word 255;").member(1, 0, 0), 255);
    bad(4, BASE + "member a of h word ^0;");
    bad(4, BASE + "member a of h word ^256;");
  }

  static void terms1ShareFrom0To99() {
    due("share 0", good(2, BASE + "member a of h word 1 share 0;").member(1, 0, 2), 0);
    due("share 99", good(2, BASE + "member a of h word 1 share 99;").member(1, 0, 2), 99);
    due("share without", good(2, BASE + "member a of h word 1;").member(1, 0, 2), 1);
    bad(4, BASE + "member a of h word 1 share ^100;");
  }

  static void terms1TrackOfAMember() {
    due("of a MEMBER", good(2, BASE + "track a of g by l less 1;").has(4), 1);
    bad(5, BASE + "track a of ^h by l less 1;");
    bad(5, BASE + "track a of ^h by l less 1;member a of h word 1;");
  }

  static void terms1LessFrom1To254() {
    due("less 1", good(2, BASE + "track a of g by l less 1;").track(0, 3), 1);
    due("less 254", good(2, BASE + "track a of g by l less 254;").track(0, 3), 254);
    bad(4, BASE + "track a of g by l less ^0;");
    bad(4, BASE + "track a of g by l less ^255;");
  }

  static void terms1TwentyFourTracks() {
    String net = GATES + LINKS + "group g every 1;" + members(1);
    due("24 TRACKS", good(1, net + tracks(24)).has(4), 24);
    bad(6, net + tracks(24) + "^track d of g by m less 1;");
  }

  static void terms1SameThreeOnce() {
    String net = BASE + "link k;member a of h word 7;track a of g by l less 1;";
    due("another LINK, GATE, GROUP", good(2, net + "track a of g by k less 1;track b of g by l less 1;track a of h by l less 1;").has(4), 4);
    bad(5, net + "track a of g by ^l less 1;");
    bad(5, net + "track a of h by l less 1;track a of g by ^l less 2;");
  }

  static void terms1SixtyStatements() {
    String sixty = GATES + LINKS + GROUPS + members(5) + tracks(11);
    due("60 STATEMENTS", good(5, sixty).has(4), 11);
    good(5, sixty + "\n");
    bad(6, sixty + "^track b of g by p less 1;");
    bad(6, sixty + " ^gate z;");
    bad(6, sixty + "^member a of g word 1;");
  }

  // ---- Terms I: what a PLAN may hold

  static void terms1EmptyTextIsAPlan() {
    goodPlan(0, "");
    goodPlan(0, " \n");
  }

  static void terms1TwentyEvents() {
    String twenty = times(20, "at 5 heal;");
    due("the 20th", goodPlan(20, twenty).event(19, 0), 5);
    badPlan(6, twenty + "^at 5 heal;");
    badPlan(6, twenty + " \n^at 4 x");
  }

  static void terms1AtFrom0To9999() {
    due("at 0", goodPlan(1, "at 0 heal;").event(0, 0), 0);
    due("at 9999", goodPlan(1, "at 9999 heal;").event(0, 0), 9999);
    badPlan(1, "at ^10000 heal;");
  }

  static void terms1AtRisesOrIsTheSame() {
    goodPlan(4, "at 0 heal;at 0 heal;at 1 heal;at 1 heal;");
    goodPlan(2, "at 9999 heal;at 9999 heal;");
    badPlan(4, "at 1 heal;at ^0 heal;");
    badPlan(4, "at 9999 heal;at ^9998 heal;");
    badPlan(4, "at 3 heal;at 5 heal;at ^4 heal;");
  }

  static void terms1EventThatIsSoIsNothing() {
    GateGroup x = Kit.of("gate a;gate b;link l;link m;group g every 1;member a of g word 255;member b of g word 7;");
    x.down(1, false);
    x.cut(1, true);
    x.split(2);
    x.ticks(10);
    x.keep(0);
    x.ticks(1);
    int[] want = Kit.picture(x);
    x.back(0);
    Kit.plan(x, "at 10 up a;at 10 down b;at 10 cut m;at 10 mend l;at 10 split b;at 10 word a of g 255;");
    x.ticks(1);
    int[] got = Kit.picture(x);
    for (int i = 0; i < 541; i++) due("number " + i, got[i], i == 11 ? 6 : want[i]);
    x.split(0);
    Kit.plan(x, "at 11 heal;");
    x.ticks(1);
    due("one PART", x.has(8), 0);
    due("TAKES", x.group(0, 7), 1);
  }

  static void terms1PlannedDownIsNotGentle() {
    GateGroup x = Kit.of("gate a;gate b;group g every 20;member a of g word 255;member b of g word 100;", "at 5 down a;");
    x.ticks(6);
    due("no letter of WORD 0", x.has(14), 1);
    due("CLOCK 60 and 12, five TICKS later", x.member(0, 1, 4), 67);
  }

  static void terms1SplitOfOneGateOrMore() {
    due("one", goodPlan(1, "at 1 split b;").event(0, 2), 2);
    due("all", goodPlan(1, "at 1 split b a;").event(0, 2), 3);
    badPlan(1, "at 1 split ^;");
    badPlan(1, "at 1 split^");
    badPlan(5, "at 1 split b ^b;");
    badPlan(5, "at 1 split a b ^a;");
    GateGroup x = Kit.of(GATES);
    due("a seventh", Kit.plan(x, "at 0 split f a c e b d a;"), -1);
    due("a GATE twice", x.fault(0), 5);
    due("at it", x.fault(1), 23);
    due("one of another sort", Kit.plan(x, "at 0 split f a c e b d z;"), -1);
    due("none such", x.fault(0), 3);
    due("six", Kit.plan(x, "at 0 split f a c e b d;"), 1);
    due("six", x.event(0, 2), 63);
    x.ticks(1);
    due("all are PART 1", x.has(8), 63);
  }

  static void terms1SplitTakesTheOthersOut() {
    GateGroup x = Kit.of(GATES, "at 0 split a b;at 1 split c;at 2 heal;");
    int[] parts = {3, 4, 0};
    for (int p : parts) { x.ticks(1); due("PART 1", x.has(8), p); }
  }

  static void terms1HealTakesNothing() {
    goodPlan(1, "at 1 heal;");
    badPlan(1, "at 1 heal ^a;");
    badPlan(1, "at 1 heal ^1;");
  }

  static void terms1PlannedWordFrom1To255() {
    due("1", goodPlan(1, "at 1 word a of g 1;").event(0, 4), 1);
    due("255", goodPlan(1, "at 1 word a of g 255;").event(0, 4), 255);
    badPlan(4, "at 1 word a of g ^0;");
    badPlan(4, "at 1 word a of g ^256;");
    badPlan(5, "at 1 word a of ^h 1;");
  }

  // ---- Terms I: names, numbers, blanks

  static void terms1NameOf1To6Letters() {
    due("1 letter", good(0, "gate z;").letter(0, 0, 0), 26);
    due("6 letters", good(0, "gate zzzzzz;").letter(0, 0, 5), 26);
    bad(1, "gate ^zzzzzzz;");
    bad(1, "link ^abcdefg;");
    bad(1, "group ^abcdefg every 1;");
    bad(1, "gate ^;");
    bad(1, "gate abcdef;group g every 1;member ^abcdefg of g word 1;");
  }

  static void terms1NoOwnWordIsAName() {
    due("OWN words", OWN.length, 21);
    for (String own : OWN) {
      bad(1, "gate ^" + own + ";");
      bad(1, "link ^" + own + ";");
      bad(1, "group ^" + own + " every 1;");
      bad(1, BASE + "member ^" + own + " of g word 1;");
      badPlan(1, "at 1 split a ^" + own + ";");
    }
  }

  static void terms1NamesNearOwnWords() {
    for (String own : OWN) {
      if (own.length() < 6) good(0, "gate " + own + "s;link x" + own + ";");
      String cut = own.substring(0, own.length() - 1);
      good(0, "gate " + cut + ";");
    }
  }

  static void terms1NamesUnlikeAmongAll() {
    String[] sorts = {"gate %;", "link %;", "group % every 1;"};
    for (String one : sorts) for (String other : sorts) bad(2, one.replace("%", "same") + other.replace("%", "^same"));
    good(0, "gate abcdef;gate abcdee;link abcde;gate bcdef;");
  }

  static void terms1NumberOf1To4Digits() {
    due("1 digit", good(1, "group g every 7;").group(0, 0), 7);
    due("4 digits", good(1, "group g every 0007;").group(0, 0), 7);
    bad(1, "group g every ^00007;");
    bad(1, "group g every ^12345;");
    bad(1, "group g every ^99999999999999999999;");
    bad(1, "group g every ^;");
    bad(1, "group g every ^-1;");
    badPlan(1, "at ^00005 heal;");
    due("a 0 of 4 digits", goodPlan(1, "at 0000 heal;").event(0, 0), 0);
  }

  static void terms1BlanksAre10And32() {
    for (int c = 0; c < 256; c++) {
      GateGroup x = new GateGroup();
      boolean blank = c == 10 || c == 32;
      boolean letter = c >= 'a' && c <= 'z';
      due("net with " + c, Kit.net(x, "gate" + (char) c + "a;"), blank ? 0 : -1);
      due("FAULT with " + c, x.fault(0), blank ? 0 : 1);
      due("place with " + c, x.fault(1), blank ? -1 : letter ? 0 : 4);
    }
  }

  static void terms1BlanksWhereOneLikes() {
    good(1, "\n\n  gate\n a \n;\n link\nl;group g\nevery\n4\n\ndelay 1 ;member a of g word 1;\n");
    good(1, "gate a;link l;group g every 4;member a of g word 1;track a of g by l less 1;");
    goodPlan(2, " at\n1\nsplit a\nb\n;\nat 2 heal\n;");
  }

  static void terms1SideBySideNeedsABlank() {
    bad(1, "gate a^1;");
    bad(1, "gate^1;");
    bad(1, "group g every^4;");
    bad(1, "group g every 4^delay 1;");
    bad(1, "group g every 4 delay^1;");
    bad(1, "group g every 4^keeps;");
    bad(1, BASE + "member a of h word^7;");
    bad(1, BASE + "member a of h word 7^share 1;");
    bad(1, BASE + "track a of g by l less^1;");
    badPlan(1, "at^1 heal;");
    badPlan(1, "at 1^heal;");
    badPlan(1, "at 1 word a of g^1;");
    badPlan(1, "at 1 split a^1;");
  }

  // ---- Terms I: FAULTS

  static void terms1OfSeveralFaultsTheLeastPlace() {
    bad(2, "gate a;gate ^a 1;");
    bad(4, "group g every ^41delay 100;");
    bad(3, BASE + "member ^x of y word 0;");
    bad(3, BASE + "member a of ^y word 0;");
    bad(5, BASE + "member ^a of g word 0;");
    bad(5, BASE + "member ^a of g every;");
    bad(5, BASE + "member ^a of g");
    bad(5, BASE + "track a of ^h by x less 0;");
    bad(5, BASE + "track a of g by l less 1;track a of g by ^l less 0;");
    bad(6, GATES + "^gate a;");
    bad(6, GATES + "^gate;");
    bad(6, GATES + "^gate");
    bad(6, GATES + "^gate1;");
    bad(6, GROUPS + "^group g every 0;");
    badPlan(4, "at 5 heal;at ^4 fly;");
    badPlan(5, "at 5 split a ^a x;");
    badPlan(5, "at 5 word a of ^h 0;");
    badPlan(6, times(20, "at 5 heal;") + "^at 4 up z;");
  }

  static void terms1OfOnePlaceTheFaultThatStandsFirst() {
    String sixty = GATES + LINKS + GROUPS + members(5) + tracks(11);
    bad(1, sixty + "^;");
    bad(1, sixty + "^of");
    bad(1, sixty + "^gates z;");
    bad(1, sixty + "^7;");
    bad(1, GATES + "^gatess z;");
    bad(1, "group g every ^99999;");
    bad(1, BASE + "member ^unknown of g word 1;");
    badPlan(1, times(20, "at 5 heal;") + "^heal;");
    badPlan(1, "at 5 heal;at ^00004 heal;");
  }

  static final String[] STATEMENTS = {"gate c ;", "link k ;", "group i every 4 delay 5 slots 6 ;", "group i every 4 keeps slots 6 ;",
      "member a of h word 7 share 8 ;", "track a of g by l less 9 ;"};
  static final String[] EVENTS = {"at 1 up a ;", "at 1 down a ;", "at 1 cut l ;", "at 1 mend l ;", "at 1 split a b ;", "at 1 heal ;", "at 1 word a of g 7 ;"};

  static void terms1TextThatEndsTooSoon() {
    for (String s : STATEMENTS) for (int i = s.indexOf(' '); i > 0; i = s.indexOf(' ', i + 1)) {
      bad(1, BASE + s.substring(0, i) + "^");
      bad(1, BASE + s.substring(0, i) + " \n^");
    }
    for (String e : EVENTS) for (int i = e.indexOf(' '); i > 0; i = e.indexOf(' ', i + 1)) {
      badPlan(1, e.substring(0, i) + "^");
      badPlan(1, "at 0 heal; " + e.substring(0, i) + "\n ^");
    }
  }

  static void terms1WordsAreTakenWhole() {
    bad(1, "^gat");
    bad(1, "^g");
    bad(1, "gate a;^li");
    bad(1, "group g ^ever 4;");
    bad(1, BASE + "member a ^o");
    bad(1, BASE + "member a of h ^wor");
    badPlan(1, "^a");
    badPlan(1, "at 1 ^hea");
    badPlan(1, "at 1 ^healed;");
    badPlan(3, "at 1 up ^aa;");
  }

  static void terms1WordsOfNoStatement() {
    for (String own : OWN) {
      if (!"gate link group member track".contains(own)) bad(1, BASE + "^" + own + " a;");
      if (!own.equals("at")) badPlan(1, "^" + own + " a;");
      if (!"up down cut mend split heal word".contains(own)) badPlan(1, "at 1 ^" + own + " a;");
    }
  }

  static void terms1Fault2NameToldAlready() {
    bad(2, "gate a;gate ^a;");
    bad(2, "link a;link ^a;");
    bad(2, "group a every 1;group ^a every 1;");
  }

  static void terms1Fault3NoneSuchOrOfAnotherSort() {
    for (String other : new String[] {"z", "l", "g"}) {
      bad(3, BASE + "member ^" + other + " of h word 1;");
      bad(3, BASE + "track ^" + other + " of g by l less 1;");
      badPlan(3, "at 1 up ^" + other + ";");
      badPlan(3, "at 1 down ^" + other + ";");
      badPlan(3, "at 1 split ^" + other + ";");
      badPlan(3, "at 1 split a ^" + other + ";");
      badPlan(3, "at 1 word ^" + other + " of g 1;");
    }
    for (String other : new String[] {"z", "a", "l"}) {
      bad(3, BASE + "member a of ^" + other + " word 1;");
      bad(3, BASE + "track a of ^" + other + " by l less 1;");
      badPlan(3, "at 1 word a of ^" + other + " 1;");
    }
    for (String other : new String[] {"z", "a", "g"}) {
      bad(3, BASE + "track a of g by ^" + other + " less 1;");
      badPlan(3, "at 1 cut ^" + other + ";");
      badPlan(3, "at 1 mend ^" + other + ";");
    }
  }

  static void terms1Fault3NameToldLater() {
    bad(3, "group g every 1;member ^a of g word 1;gate a;");
    bad(3, "gate a;member a of ^g word 1;group g every 1;");
  }

  // ---- promises 1 to 6

  static void promise01NewObjectHasNoNet() {
    GateGroup x = new GateGroup();
    for (int got : Kit.picture(x)) due("none of all", got > 0 ? 1 : 0, 0);
    int[] none = {x.holder(0, 0), x.doubles(), x.orphans(), x.holds(0), x.slot(0, 0, 0), x.slots(0, 0), x.host(0, 0, 0), x.load(0, 0, 1), x.ahead(0, 0),
        x.fails(0, 0, 0), x.worst(0, 0), x.settles(), x.least(0, 0), x.flaps(0, 1), x.needs(0, 0), x.letters(1), x.stands(0, 0, 1), x.returns(0, 0),
        x.under(0, 0, 0), x.rank(0, 0), x.log(0, 0), x.has(0), x.has(13), x.group(0, 0), x.member(0, 0, 0), x.letter(0, 0, 0), x.track(0, 0), x.event(0, 0)};
    for (int i = 0; i < none.length; i++) due("NONE, call " + i, none[i], -1);
    int[] unfit = {x.plan(), x.ticks(1), x.up(0), x.down(0, true), x.cut(0, true), x.split(0), x.word(0, 0, 1), x.chance(0, 0), x.undo(), x.keep(0), x.back(0)};
    for (int i = 0; i < unfit.length; i++) due("-2, call " + i, unfit[i], -2);
    Kit.due("no tape", x.end(1), false);
  }

  static void promise02TwentyBytesTo1500() {
    GateGroup x = new GateGroup();
    for (int n = 20; n <= 1500; n += 20) due("feed", x.feed(0x20202020, 0x20202020, 0x20202020, 0x20202020, 0x20202020), n);
    due("1520", x.feed(0, 0, 0, 0, 0), -1);
    Kit.due("none came", x.end(1501), false);
    due("blanks alone", x.net(), 0);
  }

  static void promise02NoneComeIfThereWouldBeMore() {
    for (int n = 1479; n <= 1500; n++) {
      GateGroup x = new GateGroup();
      for (int i = 0; i < 75; i++) x.feed(0x20202020, 0x20202020, 0x20202020, 0x20202020, 0x20202020);
      x.end(n);
      due("feed at " + n, x.feed(-1, -1, -1, -1, -1), n <= 1480 ? n + 20 : -1);
      Kit.due("so many at " + n, x.end(n + 1), n <= 1480);
      Kit.due("so many at " + n, x.end(n), true);
      due("blanks alone at " + n, x.net(), 0);
    }
  }

  static void promise02HighestByteFirst() {
    GateGroup x = new GateGroup();
    due("feed", x.feed(0x67617465, 0x20616263, 0x6465663b, 0x6c696e6b, 0x206c3b20), 20);
    due("net", x.net(), 0);
    for (int i = 0; i < 6; i++) due("abcdef", x.letter(0, 0, i), i + 1);
    due("l", x.letter(1, 0, 0), 12);
    due("numbers below 0", x.feed(0x2020e020, 0xff202020, 0x80000000, -1, Integer.MIN_VALUE), 20);
    due("net", x.net(), -1);
    due("the third byte", x.fault(1), 2);
    x.feed(0x202020ff, 0, 0, 0, 0);
    x.net();
    due("the fourth byte", x.fault(1), 3);
  }

  static void promise03FirstBytesAlone() {
    GateGroup x = new GateGroup();
    Kit.due("0 of none", x.end(0), true);
    Kit.due("1 of none", x.end(1), false);
    x.feed(0x67617465, 0x20613b67, 0x61746520, 0x623b6c69, 0x6e6b206c);
    Kit.due("all", x.end(20), true);
    Kit.due("more", x.end(21), false);
    Kit.due("below 0", x.end(-1), false);
    Kit.due("far below 0", x.end(Integer.MIN_VALUE), false);
    Kit.due("far more", x.end(Integer.MAX_VALUE), false);
    Kit.due("those that were refused took none", x.end(20), true);
    Kit.due("14", x.end(14), true);
    Kit.due("not 15 again", x.end(15), false);
    due("net", x.net(), 0);
    due("gate a;gate b;", x.has(0), 2);
    x.feed(0x67617465, 0, 0, 0, 0);
    Kit.due("none are left", x.end(0), true);
    due("empty", x.net(), 0);
    due("no GATE", x.has(0), 0);
  }

  static void promise03NothingIsReadBehindTheEnd() {
    String text = "group gggg every 4444;gate a;";
    for (int n = 0; n <= text.length(); n++) {
      GateGroup cut = new GateGroup();
      Kit.tape(cut, text);
      cut.end(n);
      GateGroup alone = new GateGroup();
      Kit.tape(alone, text.substring(0, n));
      due("net of " + n, cut.net(), alone.net());
      due("FAULT of " + n, cut.fault(0), alone.fault(0));
      due("place of " + n, cut.fault(1), alone.fault(1));
    }
    GateGroup x = new GateGroup();
    Kit.tape(x, "group g every 41");
    x.end(15);
    x.net();
    due("a number that goes on behind it", x.fault(1), 15);
    due("ends too soon", x.fault(0), 1);
  }

  static void promise03BytesComeBehindThoseThatAreLeft() {
    GateGroup x = new GateGroup();
    x.feed(0x67617465, 0x20617878, 0x78787878, 0x78787878, 0x78787878);
    x.end(6);
    due("26", x.feed(0x623b2020, 0x20202020, 0x20202020, 0x20202020, 0x20202020), 26);
    due("gate ab;", x.net(), 0);
    due("b", x.letter(0, 0, 1), 2);
  }

  static void promise04TapeGoesWhateverComes() {
    for (String text : new String[] {"gate a;", "gate"}) {
      GateGroup x = new GateGroup();
      Kit.net(x, text);
      Kit.due("behind " + text, x.end(1), false);
      due("feed behind " + text, x.feed(0, 0, 0, 0, 0), 20);
    }
  }

  static void promise04TextOf1500Bytes() {
    String text = BASE + times(1500 - BASE.length(), " ");
    good(2, text);
    String late = times(1500 - 7, "\n") + "gate ab";
    bad(1, late + "^");
    due("at its end", good(0, times(1500 - 7, "\n") + "gate z;").letter(0, 0, 0), 26);
  }

  static void promise04NetIsAllNew() {
    GateGroup x = Kit.of(BASE, "at 3 cut l;at 4 down a;");
    x.chance(50, 9);
    x.split(1);
    x.ticks(100);
    x.keep(0);
    x.keep(1);
    due("net", Kit.net(x, BASE), 2);
    Kit.same("as a new one", Kit.picture(x), Kit.picture(Kit.of(BASE)));
    due("TICK", x.has(5), 0);
    due("no PLAN", x.has(11), 0);
    due("chance", x.has(9), 0);
    due("x", x.has(10), 1);
    due("ACTS", x.has(13), 0);
    due("nothing can be undone", x.undo(), -3);
    due("images are gone", x.back(0), -3);
    due("images are gone", x.back(1), -3);
  }

  static void promise04NothingIsLeftOfAFullNet() {
    GateGroup x = Kit.of(GATES + LINKS + GROUPS.replace("every 1", "every 1 delay 9") + members(5).replace("word 1", "word 9") + tracks(11));
    x.chance(99, 3);
    x.ticks(100);
    x.chance(0, 1);
    x.word(0, 0, 200);
    x.ticks(1);
    for (int k = 0; k < 8; k++) x.cut(k, true);
    Kit.due("LOST, DOUBLES, a WISH", x.has(15) > 0 && x.group(0, 6) > 0 && x.member(0, 0, 7) >= 0, true);
    String one = "gate a;link m;group g every 1;member a of g word 9;";
    due("net", Kit.net(x, one), 1);
    Kit.same("as a new one", Kit.picture(x), Kit.picture(Kit.of(one)));
    due("GATES up", x.has(6), 1);
    x.cut(0, true);
    due("no TRACK", x.member(0, 0, 1), 9);
    due("net", Kit.net(x, ""), 0);
    Kit.same("as an empty one", Kit.picture(x), Kit.picture(Kit.of("")));
  }

  static void promise04WithAFaultAllElseStays() {
    GateGroup x = Kit.of(BASE, "at 30 cut l;");
    x.chance(50, 9);
    x.ticks(20);
    x.keep(0);
    int[] before = Kit.picture(x);
    for (String text : new String[] {"gate", "gate q;gate q;", "member a of g word 1;", "group g every 0;", GATES + "gate z;"}) {
      due("net " + text, Kit.net(x, text), -1);
      Kit.same("all of it behind " + text, Kit.picture(x), before);
    }
    due("NAMES", x.letter(0, 1, 0), 2);
    due("ACTS", x.has(13), 3);
    due("images", x.back(0), 20);
    due("no image", x.back(1), -3);
  }

  static void promise05TapeGoesWhateverComes() {
    GateGroup x = Kit.of(BASE);
    for (String text : new String[] {"at 1 heal;", "at 1", "at 5 up z;"}) {
      Kit.plan(x, text);
      Kit.due("behind " + text, x.end(1), false);
    }
    GateGroup none = new GateGroup();
    due("no NET", Kit.plan(none, "at 1 heal;"), -2);
    Kit.due("without a NET, too", none.end(1), false);
  }

  static void promise05WithoutANetFaultAsItWas() {
    GateGroup x = new GateGroup();
    due("plan", Kit.plan(x, "fly"), -2);
    due("none was", x.fault(0), 0);
    due("none was", x.fault(1), -1);
    Kit.net(x, "gate a;gate a;");
    due("plan", Kit.plan(x, "fly"), -2);
    due("2", x.fault(0), 2);
    due("at 12", x.fault(1), 12);
    due("plan", Kit.plan(x, ""), -2);
    due("2", x.fault(0), 2);
  }

  static void promise05EventsAheadOfNowNeverHappen() {
    GateGroup x = Kit.of(BASE);
    x.ticks(10);
    due("plan", Kit.plan(x, "at 0 cut l;at 9 cut l;at 10 down a;at 11 down b;"), 4);
    due("EVENTS", x.has(11), 4);
    due("not at once", x.has(6), 3);
    x.ticks(1);
    due("not those ahead", x.has(7), 0);
    due("that of now", x.has(6), 2);
    x.ticks(1);
    due("the next", x.has(6), 0);
    x.ticks(400);
    due("never", x.has(7), 0);
  }

  static void promise05InPlaceOfTheOneThereWas() {
    GateGroup x = Kit.of(BASE, "at 5 cut l;at 6 down a;");
    due("plan", Kit.plan(x, "at 7 down b;"), 1);
    due("its second is gone", x.event(1, 0), -1);
    x.ticks(10);
    due("LINKS", x.has(7), 0);
    due("GATES", x.has(6), 1);
  }

  static void promise05WithAFaultThePlanStays() {
    GateGroup x = Kit.of(BASE, "at 5 cut l;");
    int[] before = Kit.picture(x);
    for (String text : new String[] {"at", "at 1 up z;", "at 5 heal;at 4 heal;", times(21, "at 5 heal;"), "at 1 split a a;"}) {
      due("plan " + text, Kit.plan(x, text), -1);
      Kit.same("all of it behind " + text, Kit.picture(x), before);
      due("no ACT by " + text, x.has(13), 1);
    }
    x.ticks(6);
    due("it goes on", x.has(7), 1);
  }

  static void promise06FaultOfTheLatest() {
    GateGroup x = new GateGroup();
    due("ahead of any", x.fault(0), 0);
    due("ahead of any", x.fault(1), -1);
    Kit.net(x, "group g every 0;");
    due("of net", x.fault(0), 4);
    due("of net", x.fault(1), 14);
    Kit.net(x, BASE);
    due("without", x.fault(0), 0);
    due("without", x.fault(1), -1);
    Kit.plan(x, "at 1 up z;");
    due("of plan", x.fault(0), 3);
    due("of plan", x.fault(1), 8);
    Kit.plan(x, "");
    due("without", x.fault(0), 0);
    due("without", x.fault(1), -1);
    Kit.plan(x, "x");
    due("place 0", x.fault(1), 0);
    x.undo();
    x.feed(0, 0, 0, 0, 0);
    due("other calls leave it", x.fault(0), 1);
  }

  static void promise06NoneForOthers() {
    GateGroup x = new GateGroup();
    Kit.net(x, "gate a;gate a;");
    for (int what : new int[] {-1, 2, 3, Integer.MIN_VALUE, Integer.MAX_VALUE}) due("fault(" + what + ")", x.fault(what), -1);
  }

  // ---- promises 10 to 12

  static void promise10LettersOfNames() {
    GateGroup x = Kit.of("gate a;gate zyxwvu;link bb;group ccc every 1;");
    int[] z = {26, 25, 24, 23, 22, 21};
    for (int i = 0; i < 6; i++) {
      due("a", x.letter(0, 0, i), i == 0 ? 1 : 0);
      due("zyxwvu", x.letter(0, 1, i), z[i]);
      due("bb", x.letter(1, 0, i), i < 2 ? 2 : 0);
      due("ccc", x.letter(2, 0, i), i < 3 ? 3 : 0);
    }
  }

  static void promise10NoneWhenThereIsNoneSuch() {
    GateGroup x = Kit.of("gate a;gate zyxwvu;link bb;group ccc every 1;");
    for (int odd : new int[] {-1, 6, 7, Integer.MIN_VALUE, Integer.MAX_VALUE}) due("letter " + odd, x.letter(0, 1, odd), -1);
    for (int odd : new int[] {-1, 3, Integer.MIN_VALUE, Integer.MAX_VALUE}) due("sort " + odd, x.letter(odd, 0, 0), -1);
    for (int odd : new int[] {-1, 2, 6, 8, Integer.MIN_VALUE, Integer.MAX_VALUE}) for (int sort = 0; sort < 3; sort++) due("k " + odd, x.letter(sort, odd, 0), -1);
    due("LINK 1", x.letter(1, 1, 0), -1);
    due("GROUP 1", x.letter(2, 1, 0), -1);
  }

  static void promise10LastOfEachSort() {
    GateGroup x = Kit.of(GATES + LINKS + GROUPS);
    due("GATE 5", x.letter(0, 5, 0), 6);
    due("LINK 7", x.letter(1, 7, 0), 20);
    due("GROUP 4", x.letter(2, 4, 0), 11);
    due("GATE 6", x.letter(0, 6, 0), -1);
    due("LINK 8", x.letter(1, 8, 0), -1);
    due("GROUP 5", x.letter(2, 5, 0), -1);
  }

  static void promise11NoneSuchAndOthers() {
    GateGroup x = Kit.of(GATES + LINKS + "group g every 1;" + members(1) + tracks(24));
    int[] last = {0, 2, 7, 1};
    for (int w = 0; w < 4; w++) due("TRACK 23", x.track(23, w), last[w]);
    for (int k : new int[] {-1, 24, Integer.MIN_VALUE, Integer.MAX_VALUE}) due("TRACK " + k, x.track(k, 0), -1);
    for (int w : new int[] {-1, 4, Integer.MIN_VALUE, Integer.MAX_VALUE}) due("what " + w, x.track(0, w), -1);
    due("no TRACKS", Kit.of(BASE).track(0, 0), -1);
  }

  static void promise12NoneSuchAndOthers() {
    GateGroup x = Kit.of(BASE, times(20, "at 7 cut l;"));
    int[] last = {7, 2, 0, -1, -1};
    for (int w = 0; w < 5; w++) due("EVENT 19", x.event(19, w), last[w]);
    for (int k : new int[] {-1, 20, Integer.MIN_VALUE, Integer.MAX_VALUE}) due("EVENT " + k, x.event(k, 0), -1);
    for (int w : new int[] {-1, 5, Integer.MIN_VALUE, Integer.MAX_VALUE}) due("what " + w, x.event(0, w), -1);
    due("no PLAN", Kit.of(BASE).event(0, 0), -1);
  }

  static void promise12WhatEachEventTells() {
    GateGroup x = Kit.of(BASE, "at 0 up b;at 0 down b;at 0 cut l;at 0 mend l;at 0 split b;at 0 heal;at 9999 word b of g 255;");
    int[][] want = {{0, 0, 1, -1, -1}, {0, 1, 1, -1, -1}, {0, 2, 0, -1, -1}, {0, 3, 0, -1, -1}, {0, 4, 2, -1, -1}, {0, 5, -1, -1, -1}, {9999, 6, 1, 0, 255}};
    for (int k = 0; k < want.length; k++) for (int w = 0; w < 5; w++) due("event(" + k + ", " + w + ")", x.event(k, w), want[k][w]);
    x.ticks(5);
    due("EVENTS that happened stay told", x.event(0, 1), 0);
  }
}
