/**
 * Gateways that stand together behind shared addresses. The words in capitals (NET, PLAN, GATE,
 * LINK, GROUP, MEMBER, TRACK, TICK, WORD, CLOCK ..) are those of the document.
 *
 * All rows are made with the object and used again, so that no later call makes anything.
 */
public final class GateGroup {
    public static final int NONE = -1;

    /** What can't be by its numbers, or as there is no NET. */
    private static final int UNFIT = -2;
    /** What can't be as it stands. */
    private static final int UNDUE = -3;

    private static final int GATES = 6;
    private static final int LINKS = 8;
    private static final int GROUPS = 5;
    private static final int MEMBERS = 30;
    private static final int TRACKS = 24;
    private static final int STATEMENTS = 60;
    private static final int SLOTS = 8;
    private static final int EVENTS = 20;
    private static final int BYTES = 1500;
    private static final int FED = 20;
    private static final int CHANGES = 60;
    private static final int ACTS = 12;
    private static final int IMAGES = 2;

    private static final int LAST_TICK = 9999;
    private static final int MOST_TICKS = 500;
    private static final int LONG_RUN = 300;
    private static final int CALM = 100;
    private static final int MOST_HOSTS = 9999;
    private static final int MOST_CHANCE = 99;
    private static final int TOP_WORD = 255;
    private static final int TOP_SOUGHT = 254;

    /** What a change in THE LOG was. */
    private static final int BEGAN = 0;
    private static final int GAVE_UP = 1;
    private static final int WENT_DOWN = 2;

    /** The numbers of OWN words, by their place in Reader.OWN_WORDS; 0 to 2 are the sorts of NAMES, too. */
    private static final int GATE = 0;
    private static final int LINK = 1;
    private static final int GROUP = 2;
    private static final int EVERY = 3;
    private static final int DELAY = 4;
    private static final int KEEPS = 5;
    private static final int SLOTS_WORD = 6;
    private static final int MEMBER = 7;
    private static final int OF = 8;
    private static final int WORD = 9;
    private static final int SHARE = 10;
    private static final int TRACK = 11;
    private static final int BY = 12;
    private static final int LESS = 13;
    private static final int AT = 14;
    private static final int UP = 15;
    private static final int HEAL = 20;

    /** EVENTS as event() numbers them. */
    private static final int TO_UP = 0;
    private static final int TO_DOWN = 1;
    private static final int TO_CUT = 2;
    private static final int TO_MEND = 3;
    private static final int TO_SPLIT = 4;
    private static final int TO_HEAL = 5;
    private static final int TO_WORD = 6;

    private final Reader reader;
    private final Net net;
    private final NetReader netReader;
    private final PlanReader planReader;
    private final State now;
    private final Works works;
    private final Past past;
    private final Paper paper;
    private final Spread spread;

    public GateGroup() {
        reader = new Reader();
        net = new Net();
        netReader = new NetReader(reader);
        planReader = new PlanReader(reader, net);
        now = new State();
        works = new Works(net, now);
        past = new Past();
        paper = new Paper(net, now);
        spread = new Spread(net, now);
    }

    // ---- the tape, and what it tells

    public int feed(int a, int b, int c, int d, int e) {
        if (reader.length + FED > BYTES) {
            return NONE;
        }
        reader.append(a);
        reader.append(b);
        reader.append(c);
        reader.append(d);
        reader.append(e);
        return reader.length;
    }

    public boolean end(int n) {
        if (n < 0 || n > reader.length) {
            return false;
        }
        reader.length = n;
        return true;
    }

    public int net() {
        boolean good = netReader.read();
        reader.length = 0;
        if (!good) {
            return NONE;
        }
        net.copyFrom(netReader.draft);
        net.there = true;
        past.forgetAll();
        works.begin();
        return net.counts[GROUP];
    }

    public int plan() {
        if (!net.there) {
            reader.length = 0;
            return UNFIT;
        }
        boolean good = planReader.read();
        reader.length = 0;
        if (!good) {
            return NONE;
        }
        past.save(now);
        now.plan.copyFrom(planReader.draft);
        now.next = now.plan.firstFrom(now.tick);
        return now.plan.count;
    }

    public int fault(int what) {
        if (what == 0) {
            return reader.fault;
        }
        return what == 1 ? reader.place : NONE;
    }

    // ---- what there is

    public int has(int what) {
        if (!net.there) {
            return NONE;
        }
        switch (what) {
            case 0: return net.counts[GATE];
            case 1: return net.counts[LINK];
            case 2: return net.counts[GROUP];
            case 3: return net.countMembers();
            case 4: return net.tracks;
            case 5: return now.tick;
            case 6: return now.ups;
            case 7: return now.cuts;
            case 8: return now.part;
            case 9: return now.chance;
            case 10: return now.x;
            case 11: return now.plan.count;
            case 12: return now.changes.count;
            case 13: return past.count;
            case 14: return now.sent;
            case 15: return now.lost;
            default: return NONE;
        }
    }

    public int group(int group, int what) {
        if (!net.isGroup(group)) {
            return NONE;
        }
        switch (what) {
            case 0: return net.every[group];
            case 1: return net.delay[group];
            case 2: return net.keeps[group];
            case 3: return net.slots[group];
            case 4: return net.members[group];
            case 5: return now.gaps[group];
            case 6: return now.doubled[group];
            case 7: return now.takes[group];
            case 8: return now.held[group];
            default: return NONE;
        }
    }

    public int member(int group, int gate, int what) {
        if (!net.isMember(group, gate)) {
            return NONE;
        }
        int m = group * GATES + gate;
        switch (what) {
            case 0: return now.told[m];
            case 1: return now.weight[m];
            case 2: return net.shares[m];
            case 3: return now.howIs(group, gate);
            case 4: return now.clock[m];
            case 5: return now.skew[m];
            case 6: return net.patience(group, now.skew[m]);
            case 7: return now.wish[m];
            default: return NONE;
        }
    }

    public int letter(int sort, int k, int i) {
        if (!net.isThere(sort, k) || i < 0 || i >= Reader.LETTERS) {
            return NONE;
        }
        return net.names[sort * LINKS + k] >> (5 * i) & 31;
    }

    public int track(int k, int what) {
        if (k < 0 || k >= net.tracks) {
            return NONE;
        }
        switch (what) {
            case 0: return net.trackMember[k] / GATES;
            case 1: return net.trackMember[k] % GATES;
            case 2: return net.trackLink[k];
            case 3: return net.trackLess[k];
            default: return NONE;
        }
    }

    public int event(int k, int what) {
        if (k < 0 || k >= now.plan.count || what < 0 || what >= Plan.WIDTH) {
            return NONE;
        }
        return now.plan.rows[k * Plan.WIDTH + what];
    }

    // ---- acts

    public int ticks(int n) {
        if (!net.there || n < 1 || n > MOST_TICKS || now.tick + n > LAST_TICK) {
            return UNFIT;
        }
        past.save(now);
        works.run(n);
        return now.tick;
    }

    public int up(int gate) {
        if (!net.isThere(GATE, gate)) {
            return UNFIT;
        }
        if (now.isUp(gate)) {
            return UNDUE;
        }
        past.save(now);
        works.raise(1 << gate);
        return 1;
    }

    public int down(int gate, boolean gently) {
        if (!net.isThere(GATE, gate)) {
            return UNFIT;
        }
        if (!now.isUp(gate)) {
            return UNDUE;
        }
        past.save(now);
        return works.lower(gate, gently);
    }

    public int cut(int link, boolean is) {
        if (!net.isThere(LINK, link)) {
            return UNFIT;
        }
        if (is == now.isCut(link)) {
            return UNDUE;
        }
        past.save(now);
        works.setCuts(now.cuts ^ 1 << link);
        return 1;
    }

    public int split(int gates) {
        if (!net.there || !net.areGates(gates)) {
            return UNFIT;
        }
        if (gates == now.part) {
            return UNDUE;
        }
        past.save(now);
        now.part = gates;
        return 1;
    }

    public int word(int group, int gate, int v) {
        if (!net.isMember(group, gate) || v < 1 || v > TOP_WORD) {
            return UNFIT;
        }
        past.save(now);
        int before = now.told[group * GATES + gate];
        works.tell(group, gate, v);
        return before;
    }

    public int chance(int v, int seed) {
        if (!net.there || v < 0 || v > MOST_CHANCE || seed < 0) {
            return UNFIT;
        }
        past.save(now);
        now.chance = v;
        now.x = seed;
        return 1;
    }

    // ---- who holds what

    public int holder(int group, int gate) {
        return isPair(group, gate) ? now.holderBeside(group, gate) : NONE;
    }

    public int doubles() {
        if (!net.there) {
            return NONE;
        }
        int bits = 0;
        for (int g = 0; g < GROUPS; g++) {
            bits |= now.isDouble(g) ? 1 << g : 0;
        }
        return bits;
    }

    public int orphans() {
        if (!net.there) {
            return NONE;
        }
        int bits = 0;
        for (int g = 0; g < GROUPS; g++) {
            boolean orphan = now.held[g] == 0 && (net.members[g] & now.ups) != 0;
            bits |= orphan ? 1 << g : 0;
        }
        return bits;
    }

    public int holds(int gate) {
        if (!net.isThere(GATE, gate)) {
            return NONE;
        }
        int bits = 0;
        for (int g = 0; g < GROUPS; g++) {
            bits |= (now.held[g] >> gate & 1) << g;
        }
        return bits;
    }

    // ---- load

    public int slot(int group, int gate, int slot) {
        if (!isPair(group, gate) || slot < 0 || slot >= net.slots[group]) {
            return NONE;
        }
        spread.lay(group, gate);
        return spread.ownerOf(slot);
    }

    public int slots(int group, int gate) {
        if (!isPair(group, gate)) {
            return NONE;
        }
        spread.lay(group, gate);
        return spread.got[gate];
    }

    public int host(int group, int gate, int h) {
        if (!isPair(group, gate) || h < 0 || net.slots[group] < 1) {
            return NONE;
        }
        spread.lay(group, gate);
        return spread.ownerOf(h % net.slots[group]);
    }

    public int load(int group, int gate, int n) {
        if (!isPair(group, gate) || n < 1 || n > MOST_HOSTS) {
            return NONE;
        }
        spread.lay(group, gate);
        return spread.countHosts(group, gate, n);
    }

    // ---- what would be

    public int ahead(int group, int n) {
        boolean can = net.isGroup(group) && n >= 0 && n <= MOST_TICKS && isWithin(n);
        return can ? paper.heldIn(group, n) : NONE;
    }

    public int fails(int group, int gate, int what) {
        if (!isPair(group, gate) || !now.isUp(gate) || what < 0 || what > 1) {
            return NONE;
        }
        int gone = paper.takenBehind(group, gate);
        return what == 0 ? gone : paper.otherHolder(group, gate);
    }

    public int worst(int group, int what) {
        if (!net.isGroup(group) || what < 0 || what > 1) {
            return NONE;
        }
        int longest = NONE;
        int whose = NONE;
        int fallible = net.members[group] & now.ups;
        for (int gate = 0; gate < GATES; gate++) {
            if ((fallible >> gate & 1) == 0) {
                continue;
            }
            int gone = paper.takenBehind(group, gate);
            if (gone == NONE) {
                return what == 0 ? NONE : gate;
            }
            if (gone > longest) {
                longest = gone;
                whose = gate;
            }
        }
        return what == 0 ? longest : whose;
    }

    public int settles() {
        return net.there && isWithin(MOST_TICKS + CALM) ? paper.calmFrom() : NONE;
    }

    public int least(int group, int gate) {
        return net.isMember(group, gate) && isWithin(LONG_RUN) ? paper.leastWord(group, gate) : NONE;
    }

    public int flaps(int group, int n) {
        return net.isGroup(group) && isSpan(n) ? paper.takesIn(group, n) : NONE;
    }

    public int needs(int group, int gate) {
        if (!isPair(group, gate) || !isWithin(LONG_RUN)) {
            return NONE;
        }
        int usual = paper.holderWithCuts(group, gate, now.cuts);
        int bits = 0;
        for (int link = 0; link < net.counts[LINK]; link++) {
            int cuts = now.cuts | 1 << link;
            if (cuts != now.cuts && paper.holderWithCuts(group, gate, cuts) != usual) {
                bits |= 1 << link;
            }
        }
        return bits;
    }

    public int letters(int n) {
        return net.there && isSpan(n) ? paper.sentIn(n) : NONE;
    }

    public int stands(int group, int gate, int n) {
        return net.isMember(group, gate) && isSpan(n) ? paper.ticksHeld(group, gate, n) : NONE;
    }

    public int returns(int group, int gate) {
        return net.isMember(group, gate) && !now.isUp(gate) ? paper.regainedBehind(group, gate) : NONE;
    }

    public int under(int group, int gate, int links) {
        boolean can = isPair(group, gate) && net.areLinks(links) && isWithin(LONG_RUN);
        return can ? paper.holderWithCuts(group, gate, links) : NONE;
    }

    public int rank(int group, int k) {
        if (!net.isGroup(group) || k < 0 || k >= Integer.bitCount(net.members[group])) {
            return NONE;
        }
        int left = net.members[group];
        int best = now.strongest(group, left);
        for (int i = 0; i < k && best != NONE; i++) {
            left &= ~(1 << best);
            best = now.strongest(group, left);
        }
        return best;
    }

    public int log(int i, int what) {
        return now.changes.read(i, what);
    }

    // ---- images

    public int undo() {
        if (!net.there) {
            return UNFIT;
        }
        return past.restore(now) ? past.count : UNDUE;
    }

    public int keep(int k) {
        if (!net.there || k < 0 || k >= IMAGES) {
            return UNFIT;
        }
        past.keepImage(k, now);
        return now.tick;
    }

    public int back(int k) {
        if (!net.there || k < 0 || k >= IMAGES) {
            return UNFIT;
        }
        return past.takeImage(k, now) ? now.tick : UNDUE;
    }

    private boolean isPair(int group, int gate) {
        return net.isGroup(group) && net.isThere(GATE, gate);
    }

    private boolean isWithin(int n) {
        return now.tick + n <= LAST_TICK;
    }

    private boolean isSpan(int n) {
        return n >= 1 && n <= MOST_TICKS && isWithin(n);
    }

    /** The tape, read word by word; it keeps the FAULT of what was read latest. */
    private static final class Reader {
        private static final String OWN_WORDS = "gate link group every delay keeps slots member of word share track by less at up down cut mend split heal";
        private static final int OWN = 21;
        private static final int LETTERS = 6;
        private static final int DIGITS = 4;

        /** Kinds of what is read; ODD is what fits nowhere. */
        private static final int ENDED = 0;
        private static final int A_WORD = 1;
        private static final int A_NUMBER = 2;
        private static final int A_STOP = 3;
        private static final int ODD = 4;

        private final int[] bytes = new int[BYTES];
        private final int[] own = new int[OWN];
        private int length;
        private int at;
        private int kind;
        private int start;
        /** A number, or a word: five bits a letter, the first one lowest, so that words are compared at once. */
        private int value;
        private int fault;
        private int place = NONE;

        private Reader() {
            int k = 0;
            int i = 0;
            for (int j = 0; j < OWN_WORDS.length(); j++) {
                char c = OWN_WORDS.charAt(j);
                if (c == ' ') {
                    k++;
                    i = 0;
                } else if (k < OWN) {
                    own[k] |= (c - 'a' + 1) << (5 * i);
                    i++;
                }
            }
        }

        private void append(int number) {
            for (int shift = 24; shift >= 0 && length < BYTES; shift -= 8) {
                bytes[length] = number >> shift & 255;
                length++;
            }
        }

        private void open() {
            at = 0;
            kind = A_STOP;
            fault = 0;
            place = NONE;
            advance();
        }

        private void advance() {
            int glued = kind == A_WORD || kind == A_NUMBER ? at : NONE;
            while (at < length && (bytes[at] == 10 || bytes[at] == 32)) {
                at++;
            }
            start = at;
            if (at >= length) {
                kind = ENDED;
                return;
            }
            int c = bytes[at];
            if (c >= 'a' && c <= 'z') {
                readWord();
            } else if (c >= '0' && c <= '9') {
                readNumber();
            } else {
                kind = c == ';' ? A_STOP : ODD;
                at++;
            }
            if (start == glued && kind != A_STOP) {
                kind = ODD;
            }
        }

        private void readWord() {
            value = 0;
            for (; at < length && bytes[at] >= 'a' && bytes[at] <= 'z'; at++) {
                if (at - start < LETTERS) {
                    value |= (bytes[at] - 'a' + 1) << (5 * (at - start));
                }
            }
            kind = at - start <= LETTERS ? A_WORD : ODD;
        }

        private void readNumber() {
            value = 0;
            for (; at < length && bytes[at] >= '0' && bytes[at] <= '9'; at++) {
                if (at - start < DIGITS) {
                    value = value * 10 + bytes[at] - '0';
                }
            }
            kind = at - start <= DIGITS ? A_NUMBER : ODD;
        }

        private boolean isEnded() {
            return kind == ENDED;
        }

        private boolean isStop() {
            return kind == A_STOP;
        }

        private boolean refuse(int number, int where) {
            fault = number;
            place = where;
            return false;
        }

        /** The number of the OWN word that stands here; NONE if none does. */
        private int ownWord() {
            for (int k = 0; k < OWN && kind == A_WORD; k++) {
                if (own[k] == value) {
                    return k;
                }
            }
            return NONE;
        }

        private boolean isName() {
            return kind == A_WORD && ownWord() == NONE;
        }

        private boolean pass(int word) {
            if (ownWord() != word) {
                return refuse(1, start);
            }
            advance();
            return true;
        }

        /** Goes behind a word that may be left out. */
        private boolean passIfThere(int word) {
            if (ownWord() != word) {
                return false;
            }
            advance();
            return true;
        }

        private boolean passStop() {
            if (kind != A_STOP) {
                return refuse(1, start);
            }
            advance();
            return true;
        }

        /** An N between two bounds; NONE, if it is refused. */
        private int number(int low, int high) {
            if (kind != A_NUMBER) {
                refuse(1, start);
                return NONE;
            }
            int n = value;
            if (n < low || n > high) {
                refuse(4, start);
                return NONE;
            }
            advance();
            return n;
        }

        /** The GATE, LINK or GROUP that is named here; NONE, if it is refused. */
        private int known(Net among, int sort) {
            if (!isName()) {
                refuse(1, start);
                return NONE;
            }
            int k = among.find(sort, value);
            if (k == NONE) {
                refuse(3, start);
                return NONE;
            }
            advance();
            return k;
        }

        /** The MEMBER that is told as GATE of GROUP; NONE, if it is refused. */
        private int knownMember(Net among) {
            int gate = known(among, GATE);
            if (gate == NONE || !pass(OF)) {
                return NONE;
            }
            int where = start;
            int group = known(among, GROUP);
            if (group == NONE) {
                return NONE;
            }
            if (!among.isMember(group, gate)) {
                refuse(5, where);
                return NONE;
            }
            return group * GATES + gate;
        }
    }

    /** What a NET tells, once and for all. */
    private static final class Net {
        private boolean there;
        private final int[] counts = new int[3];
        private final int[] names = new int[3 * LINKS];
        private final int[] every = new int[GROUPS];
        private final int[] delay = new int[GROUPS];
        private final int[] keeps = new int[GROUPS];
        private final int[] slots = new int[GROUPS];
        private final int[] members = new int[GROUPS];
        private final int[] words = new int[MEMBERS];
        private final int[] shares = new int[MEMBERS];
        private int tracks;
        private final int[] trackMember = new int[TRACKS];
        private final int[] trackLink = new int[TRACKS];
        private final int[] trackLess = new int[TRACKS];

        private void clear() {
            for (int sort = 0; sort < 3; sort++) {
                counts[sort] = 0;
            }
            for (int g = 0; g < GROUPS; g++) {
                members[g] = 0;
            }
            tracks = 0;
        }

        private void copyFrom(Net other) {
            System.arraycopy(other.counts, 0, counts, 0, 3);
            System.arraycopy(other.names, 0, names, 0, 3 * LINKS);
            System.arraycopy(other.every, 0, every, 0, GROUPS);
            System.arraycopy(other.delay, 0, delay, 0, GROUPS);
            System.arraycopy(other.keeps, 0, keeps, 0, GROUPS);
            System.arraycopy(other.slots, 0, slots, 0, GROUPS);
            System.arraycopy(other.members, 0, members, 0, GROUPS);
            System.arraycopy(other.words, 0, words, 0, MEMBERS);
            System.arraycopy(other.shares, 0, shares, 0, MEMBERS);
            tracks = other.tracks;
            System.arraycopy(other.trackMember, 0, trackMember, 0, TRACKS);
            System.arraycopy(other.trackLink, 0, trackLink, 0, TRACKS);
            System.arraycopy(other.trackLess, 0, trackLess, 0, TRACKS);
        }

        private boolean isThere(int sort, int k) {
            return sort >= GATE && sort <= GROUP && k >= 0 && k < counts[sort];
        }

        private boolean isGroup(int group) {
            return group >= 0 && group < counts[GROUP];
        }

        private boolean isMember(int group, int gate) {
            return isGroup(group) && gate >= 0 && gate < counts[GATE] && (members[group] >> gate & 1) == 1;
        }

        private boolean areGates(int bits) {
            return bits >= 0 && bits < 1 << counts[GATE];
        }

        private boolean areLinks(int bits) {
            return bits >= 0 && bits < 1 << counts[LINK];
        }

        private int countMembers() {
            int count = 0;
            for (int g = 0; g < GROUPS; g++) {
                count += Integer.bitCount(members[g]);
            }
            return count;
        }

        private int find(int sort, int name) {
            for (int k = 0; sort >= GATE && sort <= GROUP && k < counts[sort] && k < LINKS; k++) {
                if (names[sort * LINKS + k] == name) {
                    return k;
                }
            }
            return NONE;
        }

        private boolean isTold(int name) {
            return find(GATE, name) != NONE || find(LINK, name) != NONE || find(GROUP, name) != NONE;
        }

        private static int room(int sort) {
            if (sort == GATE) {
                return GATES;
            }
            return sort == LINK ? LINKS : GROUPS;
        }

        private boolean isTracked(int member, int link) {
            for (int t = 0; t < tracks && t < TRACKS; t++) {
                if (trackMember[t] == member && trackLink[t] == link) {
                    return true;
                }
            }
            return false;
        }

        /** WORD of a MEMBER whose word is told so, while these LINKS are cut. */
        private int weightOf(int member, int told, int cuts) {
            if (told == TOP_WORD) {
                return TOP_WORD;
            }
            int left = told;
            for (int t = 0; t < tracks && t < TRACKS; t++) {
                if (trackMember[t] == member && (cuts >> trackLink[t] & 1) == 1) {
                    left -= trackLess[t];
                }
            }
            return left < 1 ? 1 : left;
        }

        private int patience(int group, int skew) {
            return 3 * every[group] + skew;
        }
    }

    /** Reads a NET into a draft, so that a FAULT leaves all as it is. */
    private static final class NetReader {
        private final Reader reader;
        private final Net draft = new Net();

        private NetReader(Reader reader) {
            this.reader = reader;
        }

        private boolean read() {
            draft.clear();
            reader.open();
            for (int told = 0; told <= STATEMENTS && !reader.isEnded(); told++) {
                if (!readStatement(told)) {
                    return false;
                }
            }
            return true;
        }

        private boolean readStatement(int told) {
            int first = reader.start;
            int which = reader.ownWord();
            if (which != GATE && which != LINK && which != GROUP && which != MEMBER && which != TRACK) {
                return reader.refuse(1, first);
            }
            if (told >= STATEMENTS || isFull(which)) {
                return reader.refuse(6, first);
            }
            reader.advance();
            boolean good;
            switch (which) {
                case GROUP: good = readGroup(); break;
                case MEMBER: good = readMember(); break;
                case TRACK: good = readTrack(); break;
                default: good = readName(which); break;
            }
            return good && reader.passStop();
        }

        private boolean isFull(int which) {
            if (which == TRACK) {
                return draft.tracks >= TRACKS;
            }
            return which != MEMBER && draft.counts[which] >= Net.room(which);
        }

        private boolean readName(int sort) {
            if (!reader.isName()) {
                return reader.refuse(1, reader.start);
            }
            if (draft.isTold(reader.value)) {
                return reader.refuse(2, reader.start);
            }
            int k = draft.counts[sort];
            draft.names[sort * LINKS + k] = reader.value;
            draft.counts[sort] = k + 1;
            reader.advance();
            return true;
        }

        private boolean readGroup() {
            int g = draft.counts[GROUP];
            if (!readName(GROUP) || !reader.pass(EVERY)) {
                return false;
            }
            int every = reader.number(1, 40);
            int delay = 0;
            int keeps = 0;
            if (every != NONE && reader.passIfThere(DELAY)) {
                delay = reader.number(0, 99);
            } else if (every != NONE && reader.passIfThere(KEEPS)) {
                keeps = 1;
            }
            if (every == NONE || delay == NONE) {
                return false;
            }
            int slots = reader.passIfThere(SLOTS_WORD) ? reader.number(1, SLOTS) : 1;
            draft.every[g] = every;
            draft.delay[g] = delay;
            draft.keeps[g] = keeps;
            draft.slots[g] = slots;
            return slots != NONE;
        }

        private boolean readMember() {
            int where = reader.start;
            int gate = reader.known(draft, GATE);
            if (gate == NONE || !reader.pass(OF)) {
                return false;
            }
            int group = reader.known(draft, GROUP);
            if (group == NONE) {
                return false;
            }
            if (draft.isMember(group, gate)) {
                return reader.refuse(5, where);
            }
            int word = reader.pass(WORD) ? reader.number(1, TOP_WORD) : NONE;
            if (word == NONE) {
                return false;
            }
            int share = reader.passIfThere(SHARE) ? reader.number(0, 99) : 1;
            draft.members[group] |= 1 << gate;
            draft.words[group * GATES + gate] = word;
            draft.shares[group * GATES + gate] = share;
            return share != NONE;
        }

        private boolean readTrack() {
            int member = reader.knownMember(draft);
            if (member == NONE || !reader.pass(BY)) {
                return false;
            }
            int where = reader.start;
            int link = reader.known(draft, LINK);
            if (link == NONE) {
                return false;
            }
            if (draft.isTracked(member, link)) {
                return reader.refuse(5, where);
            }
            int less = reader.pass(LESS) ? reader.number(1, 254) : NONE;
            int t = draft.tracks;
            draft.trackMember[t] = member;
            draft.trackLink[t] = link;
            draft.trackLess[t] = less;
            draft.tracks = t + 1;
            return less != NONE;
        }
    }

    /** EVENTS, a row each: at, what, GATE or LINK, GROUP, word. */
    private static final class Plan {
        private static final int WIDTH = 5;

        private int count;
        private final int[] rows = new int[EVENTS * WIDTH];

        private void copyFrom(Plan other) {
            count = other.count;
            System.arraycopy(other.rows, 0, rows, 0, EVENTS * WIDTH);
        }

        private void add(int at, int what, int whom, int group, int word) {
            if (count >= EVENTS) {
                return;
            }
            int row = count * WIDTH;
            rows[row] = at;
            rows[row + 1] = what;
            rows[row + 2] = whom;
            rows[row + 3] = group;
            rows[row + 4] = word;
            count++;
        }

        private int at(int k) {
            return rows[k * WIDTH];
        }

        /** The first EVENT that is not due ahead of a TICK. */
        private int firstFrom(int tick) {
            int k = 0;
            while (k < count && at(k) < tick) {
                k++;
            }
            return k;
        }
    }

    /** Reads a PLAN for the NET into a draft, so that a FAULT leaves all as it is. */
    private static final class PlanReader {
        private final Reader reader;
        private final Net net;
        private final Plan draft = new Plan();

        private PlanReader(Reader reader, Net net) {
            this.reader = reader;
            this.net = net;
        }

        private boolean read() {
            draft.count = 0;
            reader.open();
            int from = 0;
            for (int told = 0; told <= EVENTS && !reader.isEnded(); told++) {
                from = readAt(told, from);
                if (from == NONE || !readEvent(from) || !reader.passStop()) {
                    return false;
                }
            }
            return true;
        }

        /** When the EVENT is due; NONE, if it is refused. */
        private int readAt(int told, int from) {
            int first = reader.start;
            if (!reader.pass(AT)) {
                return NONE;
            }
            if (told >= EVENTS) {
                reader.refuse(6, first);
                return NONE;
            }
            return reader.number(from, LAST_TICK);
        }

        private boolean readEvent(int at) {
            int which = reader.ownWord();
            if (which != WORD && (which < UP || which > HEAL)) {
                return reader.refuse(1, reader.start);
            }
            reader.advance();
            int what = which == WORD ? TO_WORD : which - UP;
            if (what == TO_WORD) {
                return readWordEvent(at);
            }
            if (what == TO_HEAL) {
                draft.add(at, TO_HEAL, NONE, NONE, NONE);
                return true;
            }
            int whom = what == TO_SPLIT ? readGates() : reader.known(net, what <= TO_DOWN ? GATE : LINK);
            draft.add(at, what, whom, NONE, NONE);
            return whom != NONE;
        }

        private boolean readWordEvent(int at) {
            int member = reader.knownMember(net);
            int word = member == NONE ? NONE : reader.number(1, TOP_WORD);
            if (word == NONE) {
                return false;
            }
            draft.add(at, TO_WORD, member % GATES, member / GATES, word);
            return true;
        }

        /** One GATE or more, as bits; NONE, if one is refused. */
        private int readGates() {
            int bits = 0;
            for (int i = 0; i <= GATES && (i == 0 || !reader.isStop()); i++) {
                int where = reader.start;
                int gate = reader.known(net, GATE);
                if (gate == NONE) {
                    return NONE;
                }
                if ((bits >> gate & 1) == 1) {
                    reader.refuse(5, where);
                    return NONE;
                }
                bits |= 1 << gate;
            }
            return bits;
        }
    }

    /** THE LOG: a ring of rows: TICK, GROUP, GATE, what. */
    private static final class Changes {
        private static final int WIDTH = 4;

        private int count;
        private int newest;
        private final int[] rows = new int[CHANGES * WIDTH];

        private void copyFrom(Changes other) {
            count = other.count;
            newest = other.newest;
            System.arraycopy(other.rows, 0, rows, 0, CHANGES * WIDTH);
        }

        private void add(int tick, int group, int gate, int what) {
            newest = newest + 1 < CHANGES ? newest + 1 : 0;
            count = count < CHANGES ? count + 1 : CHANGES;
            int row = newest * WIDTH;
            rows[row] = tick;
            rows[row + 1] = group;
            rows[row + 2] = gate;
            rows[row + 3] = what;
        }

        private int read(int i, int what) {
            if (i < 0 || i >= count || what < 0 || what >= WIDTH) {
                return NONE;
            }
            int row = newest >= i ? newest - i : newest - i + CHANGES;
            return rows[row * WIDTH + what];
        }
    }

    /** All that changes. A MEMBER that is up WAITS if it is not among those that HOLD. */
    private static final class State {
        private int tick;
        private int ups;
        private int cuts;
        private int part;
        private int chance;
        private int x;
        private int sent;
        private int lost;
        private int next;
        private final Plan plan = new Plan();
        private final Changes changes = new Changes();
        private final int[] held = new int[GROUPS];
        private final int[] gaps = new int[GROUPS];
        private final int[] doubled = new int[GROUPS];
        private final int[] takes = new int[GROUPS];
        private final int[] told = new int[MEMBERS];
        /** WORD and SKEW now: they are asked for far more often than they change. */
        private final int[] weight = new int[MEMBERS];
        private final int[] skew = new int[MEMBERS];
        private final int[] clock = new int[MEMBERS];
        private final int[] wish = new int[MEMBERS];

        private void copyFrom(State other) {
            copyNumbers(other);
            plan.copyFrom(other.plan);
            changes.copyFrom(other.changes);
            System.arraycopy(other.held, 0, held, 0, GROUPS);
            System.arraycopy(other.gaps, 0, gaps, 0, GROUPS);
            System.arraycopy(other.doubled, 0, doubled, 0, GROUPS);
            System.arraycopy(other.takes, 0, takes, 0, GROUPS);
            System.arraycopy(other.told, 0, told, 0, MEMBERS);
            System.arraycopy(other.weight, 0, weight, 0, MEMBERS);
            System.arraycopy(other.skew, 0, skew, 0, MEMBERS);
            System.arraycopy(other.clock, 0, clock, 0, MEMBERS);
            System.arraycopy(other.wish, 0, wish, 0, MEMBERS);
        }

        private void copyNumbers(State other) {
            tick = other.tick;
            ups = other.ups;
            cuts = other.cuts;
            part = other.part;
            chance = other.chance;
            x = other.x;
            sent = other.sent;
            lost = other.lost;
            next = other.next;
        }

        /** TICK 0 of a NET whose words are these, with no GATE up yet. */
        private void clear(int[] words) {
            tick = 0;
            ups = 0;
            cuts = 0;
            part = 0;
            chance = 0;
            x = 1;
            sent = 0;
            lost = 0;
            next = 0;
            plan.count = 0;
            changes.count = 0;
            for (int g = 0; g < GROUPS; g++) {
                held[g] = 0;
                gaps[g] = 0;
                doubled[g] = 0;
                takes[g] = 0;
            }
            for (int m = 0; m < MEMBERS && m < words.length; m++) {
                told[m] = words[m];
                clock[m] = 0;
                wish[m] = NONE;
            }
        }

        private boolean isUp(int gate) {
            return (ups >> gate & 1) == 1;
        }

        private boolean isCut(int link) {
            return (cuts >> link & 1) == 1;
        }

        private boolean isHeld(int group, int gate) {
            return (held[group] >> gate & 1) == 1;
        }

        private int howIs(int group, int gate) {
            if (!isUp(gate)) {
                return 0;
            }
            return isHeld(group, gate) ? 2 : 1;
        }

        private boolean isDouble(int group) {
            int bits = held[group];
            return Integer.bitCount(bits & part) > 1 || Integer.bitCount(bits & ~part) > 1;
        }

        /** The GATES of the PART of a GATE, and bits of no GATE perhaps. */
        private int beside(int gate) {
            return (part >> gate & 1) == 1 ? part : ~part;
        }

        private int holderBeside(int group, int gate) {
            return strongest(group, held[group] & beside(gate));
        }

        /** The STRONGEST of these GATES in a GROUP; NONE of none. */
        private int strongest(int group, int bits) {
            int best = NONE;
            for (int gate = 0; gate < GATES; gate++) {
                boolean in = (bits >> gate & 1) == 1;
                if (in && (best == NONE || weight[group * GATES + gate] >= weight[group * GATES + best])) {
                    best = gate;
                }
            }
            return best;
        }
    }

    /** What happens to a state: acts, EVENTS, TICKS. */
    private static final class Works {
        private final Net net;
        private final State state;
        /** The GROUPS that are run: on paper others may be left out. */
        private int firstGroup;
        private int lastGroup;
        /** How often one began to HOLD or gave up. */
        private int stirs;

        private Works(Net net, State state) {
            this.net = net;
            this.state = state;
        }

        private void runAllGroups() {
            firstGroup = 0;
            lastGroup = net.counts[GROUP] - 1;
        }

        private void runOneGroup(int group) {
            firstGroup = group;
            lastGroup = group;
        }

        private void begin() {
            runAllGroups();
            state.clear(net.words);
            setCuts(0);
            raise((1 << net.counts[GATE]) - 1);
        }

        private void setCuts(int links) {
            state.cuts = links;
            for (int m = 0; m < MEMBERS; m++) {
                weigh(m);
            }
        }

        private void weigh(int m) {
            int weight = net.weightOf(m, state.told[m], state.cuts);
            state.weight[m] = weight;
            state.skew[m] = net.every[m / GATES] * (256 - weight) / 256;
        }

        private void tell(int group, int gate, int word) {
            if (net.isMember(group, gate)) {
                state.told[group * GATES + gate] = word;
                weigh(group * GATES + gate);
            }
        }

        /** GATES that are down come up. */
        private void raise(int gates) {
            state.ups |= gates;
            for (int g = 0; g < net.counts[GROUP]; g++) {
                for (int gate = 0; gate < GATES; gate++) {
                    if ((net.members[g] & gates & 1 << gate) == 0) {
                        continue;
                    }
                    if (state.weight[g * GATES + gate] == TOP_WORD) {
                        hold(g, gate);
                    } else {
                        await(g, gate);
                    }
                }
            }
        }

        /** A GATE goes down, which is nothing if it is down: how many GROUPS it HELD. */
        private int lower(int gate, boolean gently) {
            int count = 0;
            state.ups &= ~(1 << gate);
            for (int g = 0; g < net.counts[GROUP]; g++) {
                if (state.isHeld(g, gate)) {
                    count++;
                    state.held[g] &= ~(1 << gate);
                    state.changes.add(state.tick, g, gate, WENT_DOWN);
                    if (gently) {
                        sayFarewell(g, gate);
                    }
                }
                state.clock[g * GATES + gate] = 0;
                state.wish[g * GATES + gate] = NONE;
            }
            return count;
        }

        /** The letter of WORD 0. */
        private void sayFarewell(int group, int sender) {
            state.sent++;
            int waiting = net.members[group] & state.ups & state.beside(sender) & ~state.held[group];
            for (int gate = 0; gate < GATES; gate++) {
                int m = group * GATES + gate;
                if ((waiting >> gate & 1) == 1) {
                    state.clock[m] = Math.min(state.clock[m], Math.max(state.skew[m], 1));
                }
            }
        }

        private void hold(int group, int gate) {
            int m = group * GATES + gate;
            state.held[group] |= 1 << gate;
            state.clock[m] = 0;
            state.wish[m] = NONE;
            state.takes[group]++;
            stirs++;
            state.changes.add(state.tick, group, gate, BEGAN);
        }

        /** Leaves it to the caller to let it WAIT. */
        private void giveUp(int group, int gate) {
            state.held[group] &= ~(1 << gate);
            stirs++;
            state.changes.add(state.tick, group, gate, GAVE_UP);
        }

        /** Begins to WAIT, or does so anew, without a WISH. */
        private void await(int group, int gate) {
            int m = group * GATES + gate;
            state.clock[m] = net.patience(group, state.skew[m]);
            state.wish[m] = NONE;
        }

        private void run(int n) {
            int gone = 0;
            while (gone < n) {
                gone += Math.max(step(n - gone), 1);
            }
        }

        /** One TICK goes by, or at once as many as nothing happens in, most at the most: how many. */
        private int step(int most) {
            int quiet = quietTicks(most);
            if (quiet > 0) {
                passQuietly(quiet);
                return quiet;
            }
            happen();
            for (int g = firstGroup; g <= lastGroup; g++) {
                int senders = send(g);
                wind(g, 1);
                deliver(g, senders);
                tally(g, 1);
            }
            state.tick++;
            return 1;
        }

        /** For how many TICKS no EVENT is due and no CLOCK has run out. */
        private int quietTicks(int most) {
            int quiet = most;
            if (state.next < state.plan.count) {
                quiet = Math.min(quiet, state.plan.at(state.next) - state.tick);
            }
            for (int g = firstGroup; g <= lastGroup && quiet > 0; g++) {
                int alive = net.members[g] & state.ups;
                for (int gate = 0; gate < GATES; gate++) {
                    if ((alive >> gate & 1) == 1) {
                        quiet = Math.min(quiet, state.clock[g * GATES + gate]);
                    }
                }
            }
            return quiet;
        }

        private void passQuietly(int n) {
            for (int g = firstGroup; g <= lastGroup; g++) {
                wind(g, n);
                tally(g, n);
            }
            state.tick += n;
        }

        /** EVENTS that are due; one that is so already is nothing. */
        private void happen() {
            for (int k = state.next; k < state.plan.count && state.plan.at(k) == state.tick; k++) {
                state.next = k + 1;
                int row = k * Plan.WIDTH;
                int whom = state.plan.rows[row + 2];
                switch (state.plan.rows[row + 1]) {
                    case TO_UP: raise(1 << whom & ~state.ups); break;
                    case TO_DOWN: lower(whom, false); break;
                    case TO_CUT: setCuts(state.cuts | 1 << whom); break;
                    case TO_MEND: setCuts(state.cuts & ~(1 << whom)); break;
                    case TO_SPLIT: state.part = whom; break;
                    case TO_HEAL: state.part = 0; break;
                    case TO_WORD: tell(state.plan.rows[row + 3], whom, state.plan.rows[row + 4]); break;
                    default: break;
                }
            }
        }

        /** Those whose CLOCK has run out SEND: who did (bits). */
        private int send(int group) {
            int senders = 0;
            int alive = net.members[group] & state.ups;
            for (int gate = 0; gate < GATES; gate++) {
                int m = group * GATES + gate;
                if ((alive >> gate & 1) == 0 || state.clock[m] > 0) {
                    continue;
                }
                if (!state.isHeld(group, gate)) {
                    hold(group, gate);
                }
                state.clock[m] = net.every[group];
                state.sent++;
                senders |= 1 << gate;
            }
            return senders;
        }

        private void wind(int group, int n) {
            int alive = net.members[group] & state.ups;
            for (int gate = 0; gate < GATES; gate++) {
                if ((alive >> gate & 1) == 1) {
                    state.clock[group * GATES + gate] -= n;
                }
            }
        }

        /** Letters are read as they were sent, though their sender may have given up meanwhile. */
        private void deliver(int group, int senders) {
            for (int sender = 0; sender < GATES; sender++) {
                if ((senders >> sender & 1) == 0) {
                    continue;
                }
                int readers = net.members[group] & state.ups & state.beside(sender) & ~(1 << sender);
                for (int reader = 0; reader < GATES; reader++) {
                    if ((readers >> reader & 1) == 1 && !isLost()) {
                        readLetter(group, sender, reader);
                    }
                }
            }
        }

        private boolean isLost() {
            if (state.chance == 0) {
                return false;
            }
            state.x = (int) (1103515245L * state.x + 12345L & 0x7fffffffL);
            boolean lost = state.x / 64 % 100 < state.chance;
            state.lost += lost ? 1 : 0;
            return lost;
        }

        private void readLetter(int group, int sender, int reader) {
            int m = group * GATES + reader;
            int sentWord = state.weight[group * GATES + sender];
            boolean stronger = sentWord > state.weight[m] || sentWord == state.weight[m] && sender > reader;
            boolean holds = state.isHeld(group, reader);
            if (holds && !stronger) {
                return;
            }
            if (holds) {
                giveUp(group, reader);
            }
            if (stronger || net.keeps[group] == 1) {
                await(group, reader);
                return;
            }
            if (state.wish[m] == NONE) {
                state.wish[m] = state.tick;
            }
            if (state.tick - state.wish[m] >= net.delay[group]) {
                hold(group, reader);
            } else {
                state.clock[m] = net.patience(group, state.skew[m]);
            }
        }

        /** Counts n TICKS behind which the GROUP is as it is. */
        private void tally(int group, int n) {
            if (state.held[group] == 0) {
                boolean alive = (net.members[group] & state.ups) != 0;
                state.gaps[group] += alive ? n : 0;
            } else if (state.isDouble(group)) {
                state.doubled[group] += n;
            }
        }
    }

    /** What would be, on a state of its own. */
    private static final class Paper {
        private final State now;
        private final State page = new State();
        private final Works works;

        private Paper(Net net, State now) {
            this.now = now;
            works = new Works(net, page);
        }

        private void openAll() {
            page.copyFrom(now);
            works.runAllGroups();
        }

        /** GROUPS touch one another by DRAWS alone, so without them one can be run by itself. */
        private void open(int group) {
            page.copyFrom(now);
            if (now.chance == 0) {
                works.runOneGroup(group);
            } else {
                works.runAllGroups();
            }
        }

        private int heldIn(int group, int n) {
            open(group);
            works.run(n);
            return page.held[group];
        }

        /** Leaves the page as it is when another MEMBER HOLDS, for otherHolder. */
        private int takenBehind(int group, int gate) {
            open(group);
            works.lower(gate, false);
            int most = mostTicks();
            int gone = 0;
            while (gone < most && otherHolder(group, gate) == NONE) {
                gone += Math.max(works.step(most - gone), 1);
            }
            return otherHolder(group, gate) == NONE ? NONE : gone;
        }

        private int otherHolder(int group, int gate) {
            return page.strongest(group, page.held[group] & page.beside(gate) & ~(1 << gate));
        }

        private int mostTicks() {
            return Math.min(MOST_TICKS, LAST_TICK - now.tick);
        }

        private int calmFrom() {
            openAll();
            int from = 0;
            int gone = 0;
            while (gone < MOST_TICKS + CALM && from <= MOST_TICKS && gone - from < CALM) {
                int before = works.stirs;
                gone += Math.max(works.step(MOST_TICKS + CALM - gone), 1);
                from = works.stirs == before ? from : gone;
            }
            return from <= MOST_TICKS ? from : NONE;
        }

        private int leastWord(int group, int gate) {
            for (int word = 1; word <= TOP_SOUGHT; word++) {
                open(group);
                works.tell(group, gate, word);
                works.run(LONG_RUN);
                if (page.isHeld(group, gate)) {
                    return word;
                }
            }
            return NONE;
        }

        private int takesIn(int group, int n) {
            open(group);
            works.run(n);
            return page.takes[group] - now.takes[group];
        }

        private int holderWithCuts(int group, int gate, int cuts) {
            open(group);
            works.setCuts(cuts);
            works.run(LONG_RUN);
            return page.holderBeside(group, gate);
        }

        private int sentIn(int n) {
            openAll();
            works.run(n);
            return page.sent - now.sent;
        }

        private int ticksHeld(int group, int gate, int n) {
            open(group);
            int count = 0;
            int gone = 0;
            while (gone < n) {
                int passed = Math.max(works.step(n - gone), 1);
                gone += passed;
                count += page.isHeld(group, gate) ? passed : 0;
            }
            return count;
        }

        private int regainedBehind(int group, int gate) {
            open(group);
            works.raise(1 << gate);
            int most = mostTicks();
            int gone = 0;
            while (gone < most && !page.isHeld(group, gate)) {
                gone += Math.max(works.step(most - gone), 1);
            }
            return page.isHeld(group, gate) ? gone : NONE;
        }
    }

    /** SLOTS of one GROUP in one PART. */
    private static final class Spread {
        private final Net net;
        private final State now;
        private final int[] owner = new int[SLOTS];
        private final int[] got = new int[GATES];

        private Spread(Net net, State now) {
            this.net = net;
            this.now = now;
        }

        private void lay(int group, int gate) {
            int takers = net.members[group] & now.ups & now.beside(gate);
            for (int i = 0; i < GATES; i++) {
                got[i] = 0;
            }
            for (int slot = 0; slot < SLOTS; slot++) {
                int best = slot < net.slots[group] ? neediest(group, takers) : NONE;
                owner[slot] = best;
                if (best != NONE) {
                    got[best]++;
                }
            }
        }

        /** Who has most share left for one SLOT more; shares over SLOTS are compared crosswise, to stay whole. */
        private int neediest(int group, int takers) {
            int best = NONE;
            int bestShare = 0;
            int bestParts = 1;
            for (int gate = 0; gate < GATES; gate++) {
                int share = (takers >> gate & 1) == 1 ? net.shares[group * GATES + gate] : 0;
                int parts = got[gate] + 1;
                if (share * bestParts > bestShare * parts) {
                    best = gate;
                    bestShare = share;
                    bestParts = parts;
                }
            }
            return best;
        }

        private int ownerOf(int slot) {
            return slot >= 0 && slot < SLOTS ? owner[slot] : NONE;
        }

        private int countHosts(int group, int gate, int n) {
            int slots = net.slots[group];
            if (slots < 1) {
                return 0;
            }
            int count = 0;
            for (int slot = 0; slot < slots && slot < SLOTS; slot++) {
                if (owner[slot] == gate) {
                    count += n / slots + (slot < n % slots ? 1 : 0);
                }
            }
            return count;
        }
    }

    /** States of before: a ring of those ahead of ACTS, and images. */
    private static final class Past {
        private final State[] acts = new State[ACTS];
        private final State[] images = new State[IMAGES];
        private int count;
        private int newest;
        private int imagesKept;

        private Past() {
            for (int i = 0; i < ACTS; i++) {
                acts[i] = new State();
            }
            for (int k = 0; k < IMAGES; k++) {
                images[k] = new State();
            }
        }

        private void forgetAll() {
            count = 0;
            imagesKept = 0;
        }

        private void save(State now) {
            newest = newest + 1 < ACTS ? newest + 1 : 0;
            count = Math.min(count + 1, ACTS);
            acts[newest].copyFrom(now);
        }

        private boolean restore(State now) {
            if (count == 0) {
                return false;
            }
            now.copyFrom(acts[newest]);
            newest = newest > 0 ? newest - 1 : ACTS - 1;
            count--;
            return true;
        }

        private void keepImage(int k, State now) {
            images[k].copyFrom(now);
            imagesKept |= 1 << k;
        }

        private boolean takeImage(int k, State now) {
            if ((imagesKept >> k & 1) == 0) {
                return false;
            }
            now.copyFrom(images[k]);
            count = 0;
            return true;
        }
    }
}
