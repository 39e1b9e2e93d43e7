/** Nightingales who sit as a committee on the dark; the document is ../shared/DOC.md. */
public final class DarkCommittee {
    public static final int NONE = -1;

    private static final int BIRDS = 7;
    private static final int MATTERS = 6;
    private static final int TREES = 20;
    private static final int HIGHEST = 9;
    private static final int LIGHT = 48;
    private static final int LAST_NIGHT = 999;
    private static final int LAWS = 6;
    private static final int IMAGES = 2;
    private static final int HEARINGS = 6;

    // how a MATTER stands
    private static final int LIES = 0;
    private static final int MOVED = 1;
    private static final int CARRIED = 2;
    private static final int LOST = 3;

    // what a BIRD is in a DIVISION
    private static final int OUT = 0;
    private static final int NO = 1;
    private static final int AYE = 2;
    private static final int SWAYED_TO_AYE = 5;

    // what a call is REFUSED by
    private static final int BAD_NUMBER = -1;
    private static final int NO_SUCH = -2;
    private static final int CANNOT = -3;
    private static final int NO_ROOM = -5;
    private static final int BAD_TEXT = -6;

    private static final int TAPE = 400;
    private static final int FED_AT_ONCE = 20;
    private static final int ROW_BYTES = 8;
    private static final int CLAUSES_OF_TEXT = 12;
    private static final int PARTS = 50;
    private static final int BRACKETS = 8;
    private static final int LARGEST_NUMBER = 1000;
    private static final int MOST_TIMES = 20;
    private static final long BEYOND = 1000000000L;
    private static final int MOST_DUMB = 20;

    // What TOKENS are: a single byte is its own number, words are numbered as WORDS has them.
    private static final String WORDS =
            "or and not if times by to sways takes bars move divide fly pass bird tree favour matter clauses rich clock night mood done latest present stands ";
    private static final int OR = 256;
    private static final int AND = 257;
    private static final int NOT = 258;
    private static final int IF = 259;
    private static final int TIMES = 260;
    private static final int BY = 261;
    private static final int TO = 262;
    private static final int SWAYS = 263;
    private static final int TAKES = 264;
    private static final int BARS = 265;
    private static final int MOVE = 266;
    private static final int DIVIDE = 267;
    private static final int FLY = 268;
    private static final int PASS = 269;
    private static final int BIRD = 270;
    private static final int TREE = 271;
    private static final int FAVOUR = 272;
    private static final int MATTER = 273;
    private static final int CLAUSES = 274;
    private static final int RICH = 275;
    private static final int CLOCK = 276;
    private static final int NIGHT = 277;
    private static final int MOOD = 278;
    private static final int DONE = 279;
    private static final int LATEST = 280;
    private static final int PRESENT = 281;
    private static final int STANDS = 282;
    private static final int WORD = 283;
    private static final int NUMBER = 284;
    private static final int END = 285;

    // Where a word's value is while a TEXT is reckoned; "tree" B and "stands" M have one for each.
    private static final int STANDS_VALUES = PRESENT - BIRD + 1;
    private static final int TREE_VALUES = STANDS_VALUES + MATTERS;
    private static final int VALUES = TREE_VALUES + BIRDS;

    // What is kept of a CLAUSE: its first word, TIMES, where its code begins, where its SUMS and its TEST end.
    private static final int KIND = 0;
    private static final int OFTEN = 1;
    private static final int FROM = 2;
    private static final int FIRST_SUM = 3;
    private static final int SECOND_SUM = 4;
    private static final int TEST = 5;
    private static final int HEAD = 6;

    // A step of code: what it does, and beside it a NUMBER, a word's place, or where to go on.
    private static final int SHIFT = 10;
    private static final int BESIDE = 1023;

    private final int[] tape = new int[TAPE];
    private int fed;
    private final Roll roll = new Roll();
    private final Roll[] images = new Roll[IMAGES];
    private final Ring ring = new Ring();
    private final Ring ringAhead = new Ring();
    private final Stand ahead = new Stand();
    private final Stand paper = new Stand();
    private final May latestMay = new May();
    private final Reckoner reckoner = new Reckoner();
    private final Council council = new Council(roll, reckoner);
    private final Best best = new Best(council);
    private final Reader reader = new Reader();
    private final int[] refusals = new int[-BAD_TEXT + 1];
    private int latestRefusal;
    private int faultAt = NONE;
    private int catsOfRow;
    private int stoppedAt = NONE;
    private int done;
    private int latest = NONE;

    public DarkCommittee() {
        for (int k = 0; k < IMAGES; k++) {
            images[k] = new Roll();
        }
    }

    public int bird(int tree, int range) {
        if (tree < NONE || tree >= TREES || range < 0 || range > HIGHEST) {
            return refuse(BAD_NUMBER);
        }
        if (roll.birds >= BIRDS) {
            return refuse(NO_ROOM);
        }
        ring.clear();
        return accept(roll.addBird(tree, range));
    }

    public int favour(int bird, int matter, int n) {
        if (matter < 0 || matter >= MATTERS || n < 0 || n > HIGHEST) {
            return refuse(BAD_NUMBER);
        }
        if (!roll.hasBird(bird)) {
            return refuse(NO_SUCH);
        }
        int was = roll.favours[bird * MATTERS + matter];
        roll.favours[bird * MATTERS + matter] = n;
        return accept(was);
    }

    public int of(int bird, int what) {
        if (!roll.hasBird(bird) || what < 0 || what >= 3 + 3 * MATTERS) {
            return NONE;
        }
        if (what == 0) {
            return roll.stand.trees[bird];
        }
        if (what == 1) {
            return roll.ranges[bird];
        }
        if (what == 2) {
            return council.whomHears(roll.stand, bird);
        }
        int matter = (what - 3) % MATTERS;
        if (what < 3 + MATTERS) {
            return roll.favours[bird * MATTERS + matter];
        }
        if (!roll.hasMatter(matter)) {
            return NONE;
        }
        if (what < 3 + 2 * MATTERS) {
            return council.swayed(roll.stand, bird, matter);
        }
        return council.vote(roll.stand, bird, matter, roll.lawInForce());
    }

    public int matter(int clauses, int rich) {
        if (clauses < 1 || clauses > HIGHEST || rich < 0 || rich > HIGHEST) {
            return refuse(BAD_NUMBER);
        }
        if (roll.matters >= MATTERS) {
            return refuse(NO_ROOM);
        }
        ring.clear();
        return accept(roll.addMatter(clauses, rich));
    }

    public int at(int matter, int what) {
        if (!roll.hasMatter(matter)) {
            return NONE;
        }
        switch (what) {
            case 0:
                return roll.clauses[matter];
            case 1:
                return roll.rich[matter];
            case 2:
                return roll.stand.stands[matter];
            case 3:
                return council.timeTaken(roll.stand, matter);
            case 4:
                council.poll(roll.stand, matter, roll.lawInForce());
                return council.sitting;
            case 5:
                council.poll(roll.stand, matter, roll.lawInForce());
                return council.ayes;
            case 6:
                paper.become(roll.stand);
                return council.dividing(paper, matter) >= 0 ? 1 : 0;
            default:
                return NONE;
        }
    }

    public int terms(int what, int value) {
        if (what < 0 || what > 3 || value < 0 || value > largestTerm(what)) {
            return refuse(BAD_NUMBER);
        }
        int was = term(what);
        if (what == 0) {
            roll.stand.night = value;
        } else if (what == 1) {
            roll.dumb = value;
        } else if (what == 2) {
            roll.mood = value;
        } else {
            roll.quorum = value;
        }
        ring.clear();
        return accept(was);
    }

    private static int largestTerm(int what) {
        switch (what) {
            case 0:
                return LAST_NIGHT;
            case 1:
                return 10;
            case 2:
                return HIGHEST;
            default:
                return BIRDS;
        }
    }

    private int term(int what) {
        switch (what) {
            case 0:
                return roll.stand.night;
            case 1:
                return roll.dumb;
            case 2:
                return roll.mood;
            default:
                return roll.quorum;
        }
    }

    public int feed(int a, int b, int c, int d, int e) {
        if (fed + FED_AT_ONCE > TAPE) {
            return NONE;
        }
        feedFour(a);
        feedFour(b);
        feedFour(c);
        feedFour(d);
        feedFour(e);
        return fed;
    }

    private void feedFour(int bytes) {
        for (int shift = 24; shift >= 0 && fed >= 0 && fed < TAPE; shift -= 8) {
            tape[fed] = bytes >>> shift & 255;
            fed++;
        }
    }

    public int end(int n) {
        if (n < 0 || n > fed) {
            return NONE;
        }
        fed = n;
        return n;
    }

    public int row() {
        if (fed == 0) {
            return refuse(BAD_TEXT);
        }
        int birdsAhead = roll.birds;
        int rows = 0;
        for (int from = 0; from < fed; from += ROW_BYTES) {
            if (canBeBird(from)) {
                addBirdOfRow(from);
            }
            rows++;
        }
        int came = roll.birds - birdsAhead;
        catsOfRow = rows - came;
        fed = 0;
        ring.clear();
        return accept(came);
    }

    private boolean canBeBird(int from) {
        if (from < 0 || from + ROW_BYTES > fed || fed > TAPE || roll.birds >= BIRDS || tape[from] >= TREES) {
            return false;
        }
        for (int i = from + 1; i < from + ROW_BYTES; i++) {
            if (tape[i] > HIGHEST) {
                return false;
            }
        }
        return true;
    }

    private void addBirdOfRow(int from) {
        int bird = roll.addBird(tape[from], tape[from + 1]);
        for (int m = 0; m < MATTERS; m++) {
            roll.favours[bird * MATTERS + m] = tape[from + 2 + m];
        }
    }

    public int cats() {
        return catsOfRow;
    }

    public int law() {
        if (roll.lawCount >= LAWS) {
            fed = 0;
            return refuse(NO_ROOM);
        }
        boolean whole = reader.read(tape, fed, true);
        fed = 0;
        faultAt = whole ? NONE : reader.place();
        if (!whole) {
            return refuse(BAD_TEXT);
        }
        int number = roll.lawCount;
        roll.laws[number] = reader.text.copied();
        roll.lawCount++;
        return accept(number);
    }

    public int orders() {
        boolean whole = reader.read(tape, fed, false);
        fed = 0;
        faultAt = whole ? NONE : reader.place();
        stoppedAt = NONE;
        if (!whole) {
            return refuse(BAD_TEXT);
        }
        ahead.become(roll.stand);
        ringAhead.become(ring);
        done = 0;
        latest = NONE;
        Text text = reader.text;
        for (int clause = 0; clause < text.clauseCount; clause++) {
            if (!runClause(text, clause)) {
                roll.stand.become(ahead);
                ring.become(ringAhead);
                stoppedAt = clause;
                return refuse(CANNOT);
            }
        }
        return accept(done);
    }

    /** Runs a CLAUSE of ORDERS as often as its TIMES tell; false: one can't be. */
    private boolean runClause(Text text, int clause) {
        int often = text.head(clause, OFTEN);
        int from = text.head(clause, FROM);
        int second = text.head(clause, FIRST_SUM);
        int test = text.head(clause, SECOND_SUM);
        int end = text.head(clause, TEST);
        for (int i = 0; i < often; i++) {
            tellOrders();
            if (test < end && (!reckoner.reckon(text.code, test, end) || reckoner.value == 0)) {
                continue;
            }
            if (!reckoner.reckon(text.code, from, second)) {
                return false;
            }
            int a = reckoner.value;
            if (!reckoner.reckon(text.code, second, test)) {
                return false;
            }
            int told = act(text.head(clause, KIND), a, reckoner.value);
            if (told < 0) {
                return false;
            }
            latest = text.head(clause, KIND) == DIVIDE ? told : latest;
            done++;
        }
        return true;
    }

    private void tellOrders() {
        int[] values = reckoner.values;
        values[NIGHT - BIRD] = roll.stand.night;
        values[CLOCK - BIRD] = roll.stand.clock;
        values[DONE - BIRD] = done;
        values[LATEST - BIRD] = latest;
        values[PRESENT - BIRD] = Integer.bitCount(council.present(roll.stand));
        for (int m = 0; m < MATTERS; m++) {
            values[STANDS_VALUES + m] = m < roll.matters ? roll.stand.stands[m] : NONE;
        }
        for (int b = 0; b < BIRDS; b++) {
            values[TREE_VALUES + b] = b < roll.birds ? roll.stand.trees[b] : NONE;
        }
    }

    public int fault() {
        return faultAt;
    }

    public int stopped() {
        return stoppedAt;
    }

    public int force(int law) {
        if (law != NONE && !roll.hasLaw(law)) {
            return refuse(NO_SUCH);
        }
        int was = roll.inForce;
        roll.inForce = law;
        return accept(was);
    }

    /** Does what can be undone; negative: what it is REFUSED by. */
    private int act(int kind, int a, int b) {
        ring.note(roll.stand);
        int told;
        switch (kind) {
            case MOVE:
                told = council.moving(roll.stand, a, b);
                break;
            case DIVIDE:
                told = council.dividing(roll.stand, a);
                break;
            case FLY:
                told = council.flying(roll.stand, a, b);
                break;
            default:
                told = council.passing(roll.stand);
                break;
        }
        if (told >= 0) {
            ring.keep(kind - MOVE);
        }
        return told;
    }

    public int move(int matter, int bird) {
        return answer(act(MOVE, matter, bird));
    }

    public int divide(int matter) {
        return answer(act(DIVIDE, matter, NONE));
    }

    public int fly(int bird, int tree) {
        return answer(act(FLY, bird, tree));
    }

    public int pass() {
        return answer(act(PASS, NONE, NONE));
    }

    public int undo() {
        int was = ring.takeBack(roll.stand);
        return answer(was == NONE ? CANNOT : was);
    }

    public int second(int matter, int bird) {
        if (!roll.hasMatter(matter) || !roll.hasBird(bird)) {
            return NONE;
        }
        return council.seconder(roll.stand, matter, bird);
    }

    public int richest(int i) {
        best.begin(roll.stand);
        best.goOn(roll.stand.clock, 0, 0, council.moved(roll.stand));
        if (i == NONE) {
            return best.bestRich;
        }
        return i >= 0 && i < best.bestLength && i < MATTERS ? best.bestRow[i] : NONE;
    }

    public int byClock(int c) {
        if (c < 0 || c > LIGHT) {
            return NONE;
        }
        paper.become(roll.stand);
        int together = 0;
        for (int m = 0; m < roll.matters; m++) {
            boolean carried = council.dividing(paper, m) >= 0 && paper.stands[m] == CARRIED;
            if (carried && paper.clock <= c) {
                together += roll.rich[m];
            }
        }
        return together;
    }

    public int spoilt(int matter, int what) {
        if (!roll.hasMatter(matter)) {
            return NONE;
        }
        council.poll(roll.stand, matter, roll.lawInForce());
        return howManyOrWho(council.fewest(council.sitting, council.ayes, false), what);
    }

    public int come(int matter, int what) {
        if (!roll.hasMatter(matter)) {
            return NONE;
        }
        paper.become(roll.stand);
        for (int b = 0; b < roll.birds; b++) {
            paper.trees[b] = paper.trees[b] == NONE ? 0 : NONE;
        }
        council.poll(paper, matter, roll.lawInForce());
        int wouldSit = council.sitting;
        int wouldBeAyes = council.ayes;
        council.poll(roll.stand, matter, roll.lawInForce());
        return howManyOrWho(council.fewest(wouldSit, wouldBeAyes, true), what);
    }

    private static int howManyOrWho(int set, int what) {
        if (set == NONE) {
            return NONE;
        }
        return what == 0 ? Integer.bitCount(set) : what == 1 ? set : NONE;
    }

    public int chain(int from, int to, int i) {
        if (!roll.hasBird(from) || !roll.hasBird(to)) {
            return NONE;
        }
        int length = council.hops(roll.stand, from, to);
        if (i == NONE || length == NONE) {
            return length;
        }
        return i >= 0 && i < length ? council.chainBird(roll.stand, from, i) : NONE;
    }

    public int ears(int what) {
        return howManyOrWho(council.fewestEars(roll.stand), what);
    }

    public int loudest(int what) {
        int loudest = NONE;
        int most = NONE;
        for (int b = 0; b < roll.birds; b++) {
            int hearers = Integer.bitCount(council.hearers(roll.stand, b));
            if (hearers > most) {
                most = hearers;
                loudest = b;
            }
        }
        return what == 0 ? loudest : what == 1 ? most : NONE;
    }

    public int nearest(int bird, int matter) {
        if (!roll.hasBird(bird) || !roll.hasMatter(matter)) {
            return NONE;
        }
        int own = Math.max(0, roll.stand.trees[bird]);
        int nearest = NONE;
        paper.become(roll.stand);
        for (int tree = 0; tree < TREES; tree++) {
            if (nearest != NONE && Math.abs(tree - own) >= Math.abs(nearest - own)) {
                continue;
            }
            paper.trees[bird] = tree;
            if (council.vote(paper, bird, matter, roll.lawInForce()) != OUT
                    && council.seconder(paper, matter, bird) != NONE) {
                nearest = tree;
            }
        }
        return nearest;
    }

    public int heard(int ayes) {
        if (ayes < 0 || ayes > BIRDS) {
            return refuse(BAD_NUMBER);
        }
        if (roll.timesHeard >= HEARINGS) {
            return refuse(NO_ROOM);
        }
        roll.hear(ayes);
        return accept(roll.timesHeard);
    }

    public int forget() {
        int was = roll.timesHeard;
        roll.timesHeard = 0;
        return was;
    }

    public int canBe() {
        return council.mattersAsHeard(roll.stand);
    }

    public int listen(int what) {
        int left = canBe();
        if (left == 0) {
            return NONE;
        }
        int listenTo = NONE;
        int fewestLeft = MATTERS + 1;
        for (int b = 0; b < roll.birds; b++) {
            int ayeOn = Integer.bitCount(left & council.mattersAyeOn(roll.stand, b));
            int atMost = Math.max(ayeOn, Integer.bitCount(left) - ayeOn);
            if (atMost < fewestLeft) {
                fewestLeft = atMost;
                listenTo = b;
            }
        }
        if (listenTo == NONE) {
            return NONE;
        }
        return what == 0 ? listenTo : what == 1 ? fewestLeft : NONE;
    }

    public long few(int k, int n) {
        if (k < 1 || k > MOST_DUMB || n < 0 || n > 99) {
            return NONE;
        }
        long[] parts = new long[MOST_DUMB];
        parts[0] = 1000000000000L;
        for (int bird = 0; bird < n; bird++) {
            for (int j = k - 1; j >= 0; j--) {
                long oneMore = j > 0 ? parts[j - 1] * roll.dumb / 10 : 0;
                parts[j] = parts[j] * (10 - roll.dumb) / 10 + oneMore;
            }
        }
        long together = 0;
        for (int j = 0; j < k; j++) {
            together += parts[j];
        }
        return together;
    }

    public int compare(int law, int matter) {
        if (law != NONE && !roll.hasLaw(law) || !roll.hasMatter(matter)) {
            return NONE;
        }
        council.poll(roll.stand, matter, roll.lawOf(law));
        return Integer.bitCount(council.ayes);
    }

    public int mays(int seed, int n) {
        if (seed < 0 || seed > 1000000 || n < 1 || n > 60) {
            return refuse(BAD_NUMBER);
        }
        if (roll.birds < 1 || roll.matters < 1) {
            return refuse(CANNOT);
        }
        latestMay.begin(roll, seed);
        for (int i = 0; i < n && latestMay.stand.night < LAST_NIGHT; i++) {
            latestMay.step(council);
        }
        int together = 0;
        for (int m = 0; m < roll.matters; m++) {
            together += latestMay.stand.stands[m] == CARRIED ? roll.rich[m] : 0;
        }
        return accept(together);
    }

    public int drawn(int k, int what) {
        if (k < 0 || latestMay.matters == 0) {
            return NONE;
        }
        switch (what) {
            case 0:
                return k < latestMay.matters && k < MATTERS ? latestMay.stand.stands[k] : NONE;
            case 1:
                return k < latestMay.birds && k < BIRDS ? latestMay.stand.trees[k] : NONE;
            case 2:
                return k == 0 ? latestMay.stand.clock : NONE;
            case 3:
                return k == 0 ? latestMay.stand.night : NONE;
            default:
                return NONE;
        }
    }

    public int image(int k) {
        if (k < 0 || k >= IMAGES || images[k] == null) {
            return refuse(BAD_NUMBER);
        }
        images[k].become(roll);
        images[k].kept = true;
        return accept(0);
    }

    public int back(int k) {
        if (k < 0 || k >= IMAGES || images[k] == null) {
            return refuse(BAD_NUMBER);
        }
        if (!images[k].kept) {
            return refuse(NO_SUCH);
        }
        roll.become(images[k]);
        ring.clear();
        return accept(0);
    }

    public int count(int what) {
        if (what >= 8 && what <= 12) {
            // there is no -4: behind -3 the numbers go on with -5
            int code = what < 11 ? what - 7 : what - 6;
            return refusals[code];
        }
        if (what >= 14 && what <= 17) {
            return term(what - 14);
        }
        switch (what) {
            case 0:
                return roll.birds;
            case 1:
                return Integer.bitCount(council.present(roll.stand));
            case 2:
                return roll.matters;
            case 3:
                return roll.stand.clock;
            case 4:
                return roll.timesHeard;
            case 5:
                return roll.lawCount;
            case 6:
                return ring.size;
            case 7:
                return fed;
            case 13:
                return roll.inForce;
            default:
                return NONE;
        }
    }

    public int status() {
        return latestRefusal;
    }

    private int accept(int told) {
        latestRefusal = 0;
        return told;
    }

    private int refuse(int by) {
        latestRefusal = by;
        if (by < 0 && -by < refusals.length) {
            refusals[-by]++;
        }
        return by;
    }

    private int answer(int told) {
        return told < 0 ? refuse(told) : accept(told);
    }

    /** What undo() brings back: where BIRDS are, how MATTERS stand, CLOCK, NIGHT. */
    private static final class Stand {
        static final int CELLS = BIRDS + MATTERS + 2;

        final int[] trees = new int[BIRDS];
        final int[] stands = new int[MATTERS];
        int clock;
        int night;

        void become(Stand other) {
            System.arraycopy(other.trees, 0, trees, 0, BIRDS);
            System.arraycopy(other.stands, 0, stands, 0, MATTERS);
            clock = other.clock;
            night = other.night;
        }

        void writeTo(int[] cells, int from) {
            if (from < 0 || from + CELLS > cells.length) {
                return;
            }
            System.arraycopy(trees, 0, cells, from, BIRDS);
            System.arraycopy(stands, 0, cells, from + BIRDS, MATTERS);
            cells[from + BIRDS + MATTERS] = clock;
            cells[from + BIRDS + MATTERS + 1] = night;
        }

        void readFrom(int[] cells, int from) {
            if (from < 0 || from + CELLS > cells.length) {
                return;
            }
            System.arraycopy(cells, from, trees, 0, BIRDS);
            System.arraycopy(cells, from + BIRDS, stands, 0, MATTERS);
            clock = cells[from + BIRDS + MATTERS];
            night = cells[from + BIRDS + MATTERS + 1];
        }
    }

    /** All that IMAGES keep. */
    private static final class Roll {
        final Stand stand = new Stand();
        int birds;
        final int[] ranges = new int[BIRDS];
        final int[] favours = new int[BIRDS * MATTERS];
        int matters;
        final int[] clauses = new int[MATTERS];
        final int[] rich = new int[MATTERS];
        int dumb = 1;
        int mood;
        int quorum = 1;
        int timesHeard;
        // numbers alone: which MATTERS they fit is asked anew each time, as of a DIVISION now
        final int[] ayesHeard = new int[HEARINGS];
        int lawCount;
        final Text[] laws = new Text[LAWS];
        final Text noLaw = new Text(0, 0);
        int inForce = NONE;
        boolean kept;

        void become(Roll other) {
            stand.become(other.stand);
            birds = other.birds;
            System.arraycopy(other.ranges, 0, ranges, 0, BIRDS);
            System.arraycopy(other.favours, 0, favours, 0, BIRDS * MATTERS);
            matters = other.matters;
            System.arraycopy(other.clauses, 0, clauses, 0, MATTERS);
            System.arraycopy(other.rich, 0, rich, 0, MATTERS);
            dumb = other.dumb;
            mood = other.mood;
            quorum = other.quorum;
            timesHeard = other.timesHeard;
            System.arraycopy(other.ayesHeard, 0, ayesHeard, 0, HEARINGS);
            lawCount = other.lawCount;
            System.arraycopy(other.laws, 0, laws, 0, LAWS);
            inForce = other.inForce;
        }

        boolean hasBird(int bird) {
            return bird >= 0 && bird < birds && bird < BIRDS;
        }

        boolean hasMatter(int matter) {
            return matter >= 0 && matter < matters && matter < MATTERS;
        }

        boolean hasLaw(int law) {
            return law >= 0 && law < lawCount && law < LAWS;
        }

        /** Called when there is room alone; the new BIRD's number. */
        int addBird(int tree, int range) {
            int bird = Math.min(birds, BIRDS - 1);
            stand.trees[bird] = tree;
            ranges[bird] = range;
            for (int m = 0; m < MATTERS; m++) {
                favours[bird * MATTERS + m] = 0;
            }
            birds = bird + 1;
            return bird;
        }

        /** Called when there is room alone; the new MATTER's number. */
        int addMatter(int clausesOfIt, int richOfIt) {
            int matter = Math.min(matters, MATTERS - 1);
            stand.stands[matter] = LIES;
            clauses[matter] = clausesOfIt;
            rich[matter] = richOfIt;
            matters = matter + 1;
            return matter;
        }

        /** Called when there is room alone. */
        void hear(int ayes) {
            if (timesHeard >= 0 && timesHeard < HEARINGS) {
                ayesHeard[timesHeard] = ayes;
                timesHeard++;
            }
        }

        /** Whether all that was HEARD is that number of AYES. */
        boolean fitsAllHeard(int ayes) {
            for (int i = 0; i < timesHeard && i < HEARINGS; i++) {
                if (ayesHeard[i] != ayes) {
                    return false;
                }
            }
            return true;
        }

        Text lawInForce() {
            return lawOf(inForce);
        }

        Text lawOf(int number) {
            Text law = hasLaw(number) ? laws[number] : null;
            return law == null ? noLaw : law;
        }
    }

    /** The latest that can be undone, each as it was ahead of it. */
    private static final class Ring {
        static final int KEPT = 16;
        // one more than is kept, so that what is noted, but then can't be, forgets nothing
        static final int SLOTS = KEPT + 1;

        final int[] cells = new int[SLOTS * Stand.CELLS];
        final int[] acts = new int[SLOTS];
        int next;
        int size;

        void note(Stand stand) {
            stand.writeTo(cells, next * Stand.CELLS);
        }

        void keep(int kind) {
            if (next >= 0 && next < SLOTS) {
                acts[next] = kind;
            }
            next = (next + 1) % SLOTS;
            size = Math.min(size + 1, KEPT);
        }

        int takeBack(Stand stand) {
            if (size <= 0) {
                return NONE;
            }
            size--;
            next = (next + KEPT) % SLOTS;
            stand.readFrom(cells, next * Stand.CELLS);
            return next >= 0 && next < SLOTS ? acts[next] : NONE;
        }

        void clear() {
            size = 0;
        }

        void become(Ring other) {
            System.arraycopy(other.cells, 0, cells, 0, SLOTS * Stand.CELLS);
            System.arraycopy(other.acts, 0, acts, 0, SLOTS);
            next = other.next;
            size = other.size;
        }
    }

    /** CLAUSES that were read, as code for the Reckoner. */
    private static final class Text {
        final int[] code;
        final int[] heads;
        int codeLength;
        int clauseCount;

        Text(int mostCode, int mostClauses) {
            code = new int[Math.max(0, mostCode)];
            heads = new int[Math.max(0, mostClauses) * HEAD];
        }

        Text copied() {
            Text copy = new Text(codeLength, clauseCount);
            System.arraycopy(code, 0, copy.code, 0, copy.code.length);
            System.arraycopy(heads, 0, copy.heads, 0, copy.heads.length);
            copy.codeLength = codeLength;
            copy.clauseCount = clauseCount;
            return copy;
        }

        int head(int clause, int what) {
            int place = clause * HEAD + what;
            return place >= 0 && place < heads.length ? heads[place] : 0;
        }

        void setHead(int clause, int what, int value) {
            int place = clause * HEAD + what;
            if (place >= 0 && place < heads.length) {
                heads[place] = value;
            }
        }
    }

    /** The TOKENS of a TEXT, behind them END at the TEXT's length. */
    private static final class Tokens {
        final int[] kinds = new int[TAPE + 1];
        final int[] places = new int[TAPE + 1];
        final int[] numbers = new int[TAPE + 1];
        int size;

        void cut(int[] tape, int length) {
            size = 0;
            int next = 0;
            for (int i = 0; i < length && i < tape.length; i++) {
                if (i >= next && tape[i] != ' ') {
                    next = endOf(tape, i, length);
                    add(kindOf(tape, i, next), i, numberOf(tape, i, next));
                }
            }
            add(END, length, 0);
        }

        private void add(int kind, int place, int number) {
            if (size >= 0 && size < kinds.length) {
                kinds[size] = kind;
                places[size] = place;
                numbers[size] = number;
                size++;
            }
        }

        /** WORD for a letter, NUMBER for a digit, END for any other byte. */
        private static int sortOf(int sign) {
            if (sign >= 'a' && sign <= 'z') {
                return WORD;
            }
            return sign >= '0' && sign <= '9' ? NUMBER : END;
        }

        private static int endOf(int[] tape, int from, int length) {
            int sort = sortOf(tape[from]);
            int to = from + 1;
            while (sort != END && to < length && to < tape.length && sortOf(tape[to]) == sort) {
                to++;
            }
            return to;
        }

        private static int kindOf(int[] tape, int from, int to) {
            int sort = sortOf(tape[from]);
            if (sort == END) {
                return tape[from];
            }
            return sort == WORD ? wordOf(tape, from, to) : NUMBER;
        }

        /** The word's number among WORDS; WORD: it is none of them. */
        private static int wordOf(int[] tape, int from, int to) {
            int word = OR;
            int alike = 0;
            for (int i = 0; i < WORDS.length(); i++) {
                char letter = WORDS.charAt(i);
                if (letter == ' ') {
                    if (alike == to - from) {
                        return word;
                    }
                    word++;
                    alike = 0;
                } else if (alike != NONE) {
                    int place = from + alike;
                    alike = place < to && place < tape.length && tape[place] == letter ? alike + 1 : NONE;
                }
            }
            return WORD;
        }

        /** What the digits tell; one more than the largest NUMBER, if that is too small. */
        private static int numberOf(int[] tape, int from, int to) {
            int number = 0;
            for (int i = from; i < to && i < tape.length; i++) {
                number = Math.min(number * 10 + Math.max(0, tape[i] - '0'), LARGEST_NUMBER + 1);
            }
            return number;
        }
    }

    /** Reads TEXTS. What can't go on stays the present TOKEN, so that its place is the FAULT. */
    private static final class Reader {
        final Tokens tokens = new Tokens();
        final Text text = new Text(TAPE, CLAUSES_OF_TEXT);
        boolean asLaw;
        int present;
        int partCount;

        boolean read(int[] tape, int length, boolean asLawText) {
            tokens.cut(tape, length);
            asLaw = asLawText;
            present = 0;
            partCount = 0;
            text.codeLength = 0;
            text.clauseCount = 0;
            for (int clause = 0; clause < CLAUSES_OF_TEXT; clause++) {
                setHead(KIND, kind());
                setHead(OFTEN, 1);
                setHead(FROM, text.codeLength);
                if (!(asLaw ? lawClause() : orderClause())) {
                    return false;
                }
                if (kind() == IF) {
                    next();
                    if (!test(0)) {
                        return false;
                    }
                }
                setHead(TEST, text.codeLength);
                text.clauseCount++;
                if (kind() != ';') {
                    return kind() == END;
                }
                next();
            }
            return false;
        }

        int place() {
            return present >= 0 && present < tokens.size ? tokens.places[present] : 0;
        }

        private int kind() {
            return present >= 0 && present < tokens.size ? tokens.kinds[present] : END;
        }

        private int number() {
            return present >= 0 && present < tokens.size ? tokens.numbers[present] : 0;
        }

        private void next() {
            present++;
        }

        private boolean isNumber(int least, int most) {
            return present >= 0 && present < tokens.size && tokens.kinds[present] == NUMBER
                    && tokens.numbers[present] >= least && tokens.numbers[present] <= most;
        }

        private void setHead(int what, int value) {
            text.setHead(text.clauseCount, what, value);
        }

        private void emit(int what, int beside) {
            if (text.codeLength >= 0 && text.codeLength < text.code.length) {
                text.code[text.codeLength] = what << SHIFT | beside & BESIDE;
                text.codeLength++;
            }
        }

        private boolean lawClause() {
            int first = kind();
            if (first < SWAYS || first > BARS) {
                return false;
            }
            next();
            if (first != BARS && !sum(0)) {
                return false;
            }
            setHead(FIRST_SUM, text.codeLength);
            setHead(SECOND_SUM, text.codeLength);
            return true;
        }

        private boolean orderClause() {
            int first = kind();
            if (first < MOVE || first > PASS) {
                return false;
            }
            next();
            if (first != PASS && !sum(0)) {
                return false;
            }
            setHead(FIRST_SUM, text.codeLength);
            if (first == MOVE || first == FLY) {
                if (kind() != (first == MOVE ? BY : TO)) {
                    return false;
                }
                next();
                if (!sum(0)) {
                    return false;
                }
            }
            setHead(SECOND_SUM, text.codeLength);
            return times();
        }

        private boolean times() {
            if (kind() != TIMES) {
                return true;
            }
            next();
            if (!isNumber(1, MOST_TIMES)) {
                return false;
            }
            setHead(OFTEN, number());
            next();
            return true;
        }

        /**
         * "or" and "and" become steps that leap over what can't matter any more. Each leaps to the next of its
         * kind, or, an "and", to the "or" behind it, and that one leaps on by itself.
         */
        private boolean test(int deep) {
            int and = NONE;
            int or = NONE;
            for (int i = 0; i < TAPE; i++) {
                if (!plain(deep)) {
                    return false;
                }
                leapHere(and);
                int joins = kind();
                if (joins == AND) {
                    and = text.codeLength;
                } else {
                    leapHere(or);
                    and = NONE;
                    or = text.codeLength;
                }
                if (joins != AND && joins != OR) {
                    return true;
                }
                emit(joins, 0);
                next();
            }
            return false;
        }

        private void leapHere(int step) {
            if (step >= 0 && step < text.code.length) {
                text.code[step] |= text.codeLength & BESIDE;
            }
        }

        private boolean plain(int deep) {
            int nots = 0;
            while (nots < TAPE && kind() == NOT) {
                nots++;
                next();
            }
            if (kind() == '(') {
                if (!testInBrackets(deep)) {
                    return false;
                }
            } else {
                if (!sum(deep)) {
                    return false;
                }
                int sign = kind();
                if (sign != '<' && sign != '>' && sign != '=') {
                    return false;
                }
                next();
                if (!sum(deep)) {
                    return false;
                }
                emit(sign, 0);
            }
            if (nots % 2 != 0) {
                emit(NOT, 0);
            }
            return true;
        }

        private boolean testInBrackets(int deep) {
            if (deep >= BRACKETS) {
                return false;
            }
            next();
            if (!test(deep + 1) || kind() != ')') {
                return false;
            }
            next();
            return true;
        }

        private boolean sum(int deep) {
            int plus = NONE;
            int times = NONE;
            for (int i = 0; i < TAPE; i++) {
                if (!part(deep)) {
                    return false;
                }
                if (times != NONE) {
                    emit(times, 0);
                }
                int sign = kind();
                times = sign == '*' || sign == '/' || sign == '%' ? sign : NONE;
                if (times == NONE) {
                    if (plus != NONE) {
                        emit(plus, 0);
                    }
                    plus = sign;
                    if (sign != '+' && sign != '-') {
                        return true;
                    }
                }
                next();
            }
            return false;
        }

        private boolean part(int deep) {
            if (kind() == '[') {
                return sumInBrackets(deep);
            }
            if (partCount >= PARTS) {
                return false;
            }
            partCount++;
            if (isNumber(0, LARGEST_NUMBER)) {
                emit(NUMBER, number());
                next();
                return true;
            }
            return asLaw ? lawWord() : orderWord();
        }

        private boolean sumInBrackets(int deep) {
            if (deep >= BRACKETS) {
                return false;
            }
            next();
            if (!sum(deep + 1) || kind() != ']') {
                return false;
            }
            next();
            return true;
        }

        private boolean lawWord() {
            int word = kind();
            if (word < BIRD || word > MOOD) {
                return false;
            }
            emit(WORD, word - BIRD);
            next();
            return true;
        }

        private boolean orderWord() {
            int word = kind();
            if (word == TREE || word == STANDS) {
                next();
                if (!isNumber(0, word == TREE ? BIRDS - 1 : MATTERS - 1)) {
                    return false;
                }
                emit(WORD, (word == TREE ? TREE_VALUES : STANDS_VALUES) + number());
            } else if (word == CLOCK || word == NIGHT || word == DONE || word == LATEST || word == PRESENT) {
                emit(WORD, word - BIRD);
            } else {
                return false;
            }
            next();
            return true;
        }
    }

    /** Reckons SUMS and TESTS; their words are told in values ahead. */
    private static final class Reckoner {
        final int[] values = new int[VALUES];
        final long[] stack = new long[PARTS + 2];
        int value;

        /** Whether a CLAUSE of that kind HOLDS; value is what the last one that does tells. */
        boolean holds(Text law, int kind) {
            for (int clause = law.clauseCount - 1; clause >= 0; clause--) {
                if (law.head(clause, KIND) == kind) {
                    int test = law.head(clause, SECOND_SUM);
                    int end = law.head(clause, TEST);
                    boolean so = test >= end || reckon(law.code, test, end) && value != 0;
                    if (so && reckon(law.code, law.head(clause, FROM), test)) {
                        return true;
                    }
                }
            }
            return false;
        }

        /** Reckons code into value (0, if there is none of it); false: it is BROKEN. */
        boolean reckon(int[] code, int from, int to) {
            int depth = 0;
            int goOn = from;
            for (int at = from; at < to; at++) {
                if (at < goOn) {
                    continue;
                }
                if (at < 0 || at >= code.length || depth < 0 || depth >= stack.length) {
                    return false;
                }
                int what = code[at] >> SHIFT;
                int beside = code[at] & BESIDE;
                if (what == NUMBER) {
                    stack[depth] = beside;
                    depth++;
                } else if (what == WORD) {
                    stack[depth] = beside < values.length ? values[beside] : NONE;
                    depth++;
                } else if (depth < 1) {
                    return false;
                } else if (what == NOT) {
                    stack[depth - 1] = stack[depth - 1] == 0 ? 1 : 0;
                } else if (what == OR || what == AND) {
                    if (stack[depth - 1] != 0 == (what == OR)) {
                        goOn = beside;
                    } else {
                        depth--;
                    }
                } else if (depth < 2) {
                    return false;
                } else {
                    depth--;
                    long left = stack[depth - 1];
                    long right = stack[depth];
                    if (right == 0 && (what == '/' || what == '%')) {
                        return false;
                    }
                    long both = what == '+' ? left + right
                            : what == '-' ? left - right
                            : what == '*' ? left * right
                            : what == '/' ? left / right
                            : what == '%' ? left % right
                            : (what == '<' ? left < right : what == '>' ? left > right : left == right) ? 1 : 0;
                    if (both > BEYOND || both < -BEYOND) {
                        return false;
                    }
                    stack[depth - 1] = both;
                }
            }
            value = depth > 0 ? (int) stack[0] : 0;
            return true;
        }
    }

    /** What BIRDS do and would do, on whatever Stand. */
    private static final class Council {
        final Roll roll;
        final Reckoner reckoner;
        int sitting;
        int ayes;
        final int[] hopsTo = new int[BIRDS];
        final int[] hearersOf = new int[BIRDS];

        Council(Roll ofAll, Reckoner ofLaws) {
            roll = ofAll;
            reckoner = ofLaws;
        }

        private void tellLaw(Stand s, int bird, int tree, int favour, int matter) {
            int[] values = reckoner.values;
            values[0] = bird;
            values[TREE - BIRD] = tree;
            values[FAVOUR - BIRD] = favour;
            values[MATTER - BIRD] = matter;
            values[CLAUSES - BIRD] = roll.clauses[matter];
            values[RICH - BIRD] = roll.rich[matter];
            values[CLOCK - BIRD] = s.clock;
            values[NIGHT - BIRD] = s.night;
            values[MOOD - BIRD] = roll.mood;
        }

        private void tellBird(Stand s, int bird, int matter) {
            tellLaw(s, bird, s.trees[bird], roll.favours[bird * MATTERS + matter], matter);
        }

        private static int within(int least, int value, int most) {
            return Math.max(least, Math.min(value, most));
        }

        int swayed(Stand s, int bird, int matter) {
            tellBird(s, bird, matter);
            boolean told = reckoner.holds(roll.lawInForce(), SWAYS);
            return told ? within(0, reckoner.value, HIGHEST) : roll.favours[bird * MATTERS + matter];
        }

        int timeTaken(Stand s, int matter) {
            tellLaw(s, NONE, NONE, NONE, matter);
            boolean told = reckoner.holds(roll.lawInForce(), TAKES);
            return told ? within(1, reckoner.value, HIGHEST) : roll.clauses[matter];
        }

        int vote(Stand s, int bird, int matter, Text law) {
            if (s.trees[bird] == NONE) {
                return OUT;
            }
            tellBird(s, bird, matter);
            if (reckoner.holds(law, BARS)) {
                return OUT;
            }
            boolean told = reckoner.holds(law, SWAYS);
            int swayed = told ? reckoner.value : roll.favours[bird * MATTERS + matter];
            return swayed >= SWAYED_TO_AYE ? AYE : NO;
        }

        /** Leaves who is SITTING and who is an AYE. */
        void poll(Stand s, int matter, Text law) {
            sitting = 0;
            ayes = 0;
            for (int b = 0; b < roll.birds; b++) {
                int vote = vote(s, b, matter, law);
                sitting |= vote == OUT ? 0 : 1 << b;
                ayes |= vote == AYE ? 1 << b : 0;
            }
        }

        int present(Stand s) {
            int present = 0;
            for (int b = 0; b < roll.birds; b++) {
                present |= s.trees[b] == NONE ? 0 : 1 << b;
            }
            return present;
        }

        int moved(Stand s) {
            int moved = 0;
            for (int m = 0; m < roll.matters; m++) {
                moved |= s.stands[m] == MOVED ? 1 << m : 0;
            }
            return moved;
        }

        boolean hears(Stand s, int who, int whom) {
            return who != whom && s.trees[who] != NONE && s.trees[whom] != NONE
                    && Math.abs(s.trees[who] - s.trees[whom]) <= roll.ranges[whom];
        }

        int whomHears(Stand s, int who) {
            int whom = 0;
            for (int b = 0; b < roll.birds; b++) {
                whom |= hears(s, who, b) ? 1 << b : 0;
            }
            return whom;
        }

        int hearers(Stand s, int whom) {
            int hearers = 0;
            for (int b = 0; b < roll.birds; b++) {
                hearers |= hears(s, b, whom) ? 1 << b : 0;
            }
            return hearers;
        }

        int seconder(Stand s, int matter, int bird) {
            for (int b = 0; b < roll.birds; b++) {
                if (hears(s, b, bird) && vote(s, b, matter, roll.lawInForce()) == AYE) {
                    return b;
                }
            }
            return NONE;
        }

        int moving(Stand s, int matter, int bird) {
            if (!roll.hasMatter(matter) || !roll.hasBird(bird)) {
                return NO_SUCH;
            }
            if (s.stands[matter] != LIES || vote(s, bird, matter, roll.lawInForce()) == OUT) {
                return CANNOT;
            }
            int by = seconder(s, matter, bird);
            if (by == NONE) {
                return CANNOT;
            }
            s.stands[matter] = MOVED;
            return by;
        }

        int dividing(Stand s, int matter) {
            if (!roll.hasMatter(matter)) {
                return NO_SUCH;
            }
            if (s.stands[matter] != MOVED) {
                return CANNOT;
            }
            poll(s, matter, roll.lawInForce());
            int takes = timeTaken(s, matter);
            if (Integer.bitCount(sitting) < roll.quorum || s.clock + takes > LIGHT) {
                return CANNOT;
            }
            s.stands[matter] = wouldCarry(sitting, ayes) ? CARRIED : LOST;
            s.clock += takes;
            return Integer.bitCount(ayes);
        }

        int flying(Stand s, int bird, int tree) {
            if (tree < NONE || tree >= TREES) {
                return BAD_NUMBER;
            }
            if (!roll.hasBird(bird)) {
                return NO_SUCH;
            }
            int was = s.trees[bird];
            if (was == tree) {
                return CANNOT;
            }
            s.trees[bird] = tree;
            return was == NONE ? TREES : was;
        }

        int passing(Stand s) {
            if (s.night >= LAST_NIGHT) {
                return CANNOT;
            }
            s.night++;
            s.clock = 0;
            int lie = 0;
            for (int m = 0; m < roll.matters; m++) {
                if (s.stands[m] != CARRIED) {
                    s.stands[m] = LIES;
                    lie++;
                }
            }
            return lie;
        }

        private boolean wouldCarry(int whoSit, int whoAreAyes) {
            int sit = Integer.bitCount(whoSit);
            return sit >= roll.quorum && 2 * Integer.bitCount(whoAreAyes) > sit;
        }

        /**
         * The fewest, of the latest poll's BIRDS or those beside them, by whose going or coming a MATTER would be
         * CARRIED or not, as is wanted: of equally many the lowest set; NONE: it can't be.
         */
        int fewest(int whoTurn, int ayesOfThem, boolean wanted) {
            int fewest = NONE;
            for (int set = 0; set < 1 << BIRDS; set++) {
                boolean fewer = fewest == NONE || Integer.bitCount(set) < Integer.bitCount(fewest);
                if (fewer && (set & ~whoTurn) == 0
                        && wouldCarry(sitting ^ set, ayes ^ set & ayesOfThem) == wanted) {
                    fewest = set;
                }
            }
            return fewest;
        }

        /** How many BIRDS a CHAIN has (NONE: there is none), leaving in hopsTo how many from each BIRD. */
        int hops(Stand s, int from, int to) {
            for (int b = 0; b < BIRDS; b++) {
                hopsTo[b] = b == to ? 0 : NONE;
            }
            for (int hop = 1; hop < BIRDS; hop++) {
                for (int b = 0; b < roll.birds; b++) {
                    if (hopsTo[b] == NONE && nextInChain(s, b, hop - 1) != NONE) {
                        hopsTo[b] = hop;
                    }
                }
            }
            return hopsTo[from];
        }

        /** The first BIRD that HEARS that one and is so many from the CHAIN's end. */
        private int nextInChain(Stand s, int bird, int hopsLeft) {
            for (int b = 0; b < roll.birds; b++) {
                if (hopsTo[b] == hopsLeft && hears(s, b, bird)) {
                    return b;
                }
            }
            return NONE;
        }

        /** Behind hops(): the i-th BIRD of the CHAIN from a BIRD. */
        int chainBird(Stand s, int from, int i) {
            int bird = from;
            for (int k = 0; k <= i && k < BIRDS && roll.hasBird(bird); k++) {
                bird = nextInChain(s, bird, hopsTo[bird] - 1);
            }
            return bird;
        }

        int fewestEars(Stand s) {
            int present = present(s);
            for (int b = 0; b < BIRDS; b++) {
                hearersOf[b] = b < roll.birds ? hearers(s, b) : 0;
            }
            int fewest = present;
            for (int set = 0; set < present; set++) {
                boolean fewer = Integer.bitCount(set) < Integer.bitCount(fewest);
                if (fewer && (set & ~present) == 0 && hearAll(set, present)) {
                    fewest = set;
                }
            }
            return fewest;
        }

        private boolean hearAll(int ears, int present) {
            for (int b = 0; b < BIRDS; b++) {
                boolean other = (present & ~ears & 1 << b) != 0;
                if (other && (hearersOf[b] & ears) == 0) {
                    return false;
                }
            }
            return true;
        }

        int mattersAsHeard(Stand s) {
            int matters = 0;
            for (int m = 0; m < roll.matters; m++) {
                poll(s, m, roll.lawInForce());
                matters |= roll.fitsAllHeard(Integer.bitCount(ayes)) ? 1 << m : 0;
            }
            return matters;
        }

        int mattersAyeOn(Stand s, int bird) {
            int matters = 0;
            for (int m = 0; m < roll.matters; m++) {
                matters |= vote(s, bird, m, roll.lawInForce()) == AYE ? 1 << m : 0;
            }
            return matters;
        }
    }

    /** Looks for the RICHEST order. */
    private static final class Best {
        // what a DIVISION is on paper: what it TAKES, and that beside it, if the MATTER would be CARRIED
        static final int CARRIES = 16;
        static final int CANNOT_BE = -1;

        final Council council;
        final Stand paper = new Stand();
        final int[] told = new int[MATTERS * (LIGHT + 1)];
        final int[] row = new int[MATTERS];
        final int[] bestRow = new int[MATTERS];
        int bestLength;
        int bestRich;

        Best(Council ofBirds) {
            council = ofBirds;
        }

        void begin(Stand now) {
            paper.become(now);
            for (int i = 0; i < told.length; i++) {
                told[i] = 0;
            }
            bestLength = 0;
            bestRich = 0;
        }

        /** Rows come by MATTERS one behind the other, shorter ones first: only a richer one is better. */
        private void goOn(int clock, int length, int rich, int left) {
            if (rich > bestRich) {
                bestRich = rich;
                bestLength = length;
                System.arraycopy(row, 0, bestRow, 0, MATTERS);
            }
            for (int m = 0; m < MATTERS && length < MATTERS; m++) {
                int division = (left & 1 << m) != 0 ? divisionAt(clock, m) : CANNOT_BE;
                if (division != CANNOT_BE) {
                    row[length] = m;
                    int more = division >= CARRIES ? council.roll.rich[m] : 0;
                    goOn(clock + division % CARRIES, length + 1, rich + more, left & ~(1 << m));
                }
            }
        }

        /** A MATTER and CLOCK are all that a DIVISION hangs on here, so each is asked once. */
        private int divisionAt(int clock, int matter) {
            int place = clock * MATTERS + matter;
            if (place < 0 || place >= told.length) {
                return CANNOT_BE;
            }
            if (told[place] == 0) {
                paper.clock = clock;
                paper.stands[matter] = MOVED;
                boolean can = council.dividing(paper, matter) >= 0;
                int carries = paper.stands[matter] == CARRIED ? CARRIES : 0;
                told[place] = can ? paper.clock - clock + carries : CANNOT_BE;
            }
            return told[place];
        }
    }

    /** MAYS on paper. */
    private static final class May {
        final Stand stand = new Stand();
        int birds;
        int matters;
        int seed;

        void begin(Roll roll, int firstSeed) {
            stand.become(roll.stand);
            birds = roll.birds;
            matters = roll.matters;
            seed = firstSeed;
        }

        private int draw(int of) {
            seed = (seed * 1103 + 12345) % 1000003;
            return of > 0 ? seed % of : 0;
        }

        void step(Council council) {
            int bird = draw(birds);
            int matter = draw(matters);
            int tree = draw(TREES);
            switch (draw(4)) {
                case 0:
                    council.moving(stand, matter, bird);
                    break;
                case 1:
                    council.dividing(stand, matter);
                    break;
                case 2:
                    council.flying(stand, bird, tree);
                    break;
                default:
                    council.passing(stand);
                    break;
            }
        }
    }
}
