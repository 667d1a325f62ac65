import java.util.Arrays;

/**
 * A dark room for old fiddles. What each call promises is said in the document, by its number.
 *
 * All rows are made in the constructor and used again: a call makes no object.
 */
public final class BlindFiddles {
    public static final int NONE = -1;

    private static final int NOTHING = -2;
    private static final int NO_SUM = -1000000000;
    private static final int NO_LIKING = -2147483648;

    private static final int TAPE_MOST = 2000;
    private static final int TOKENS_MOST = 400;
    private static final int FIDDLES_MOST = 8;
    private static final int PEOPLE_MOST = 10;
    private static final int BOWS_MOST = 4;
    private static final int LAWS_MOST = 6;
    private static final int PLANS_MOST = 4;
    private static final int SITS_MOST = 12;
    private static final int ORDER_MOST = 6;
    private static final int OPEN_MOST = 6;
    private static final int NAMES_MOST = 32;
    private static final int FACTS_MOST = 80;
    private static final int SPOTS = 10;
    private static final int NOISES = 10;
    private static final int SETTINGS_MOST = 3;
    private static final int GUESSES_MOST = 60;

    /** Two pending values (or operators) outside all brackets, three more in each, and one on top. */
    private static final int STACK_MOST = 24;

    private static final int SYNTAX = 1;
    private static final int ROOM = 2;
    private static final int TWICE = 3;
    private static final int NO_NAME = 4;
    private static final int WRONG = 5;

    /** Kinds of TOKENS: these, a sign's own byte, and WORD + the number of a word. */
    private static final int END = 0;
    private static final int BAD = 1;
    private static final int NAME = 2;
    private static final int INT = 3;
    private static final int SAME = 4;
    private static final int WORD = 128;

    private static final String SIGNS = ";:,=+-*<()[]{}";
    /** The words, eight places each; the VARs come first, so that a VAR's number is its word's. */
    private static final String WORDS = "bright  loud    quick   warm    strong  light   habit   old     seen    spot    far     noise   fiddle  new     barred  player  hearer  bow     law     plan    sit     with    ";
    private static final int WORD_WIDTH = 8;
    private static final int WORDS_MANY = 22;
    private static final int INT_WIDTH = 4;

    private static final int VARS = 12;
    private static final int VAR_SOUNDS = 0;
    private static final int VAR_LIKINGS = 3;
    private static final int VAR_OLD = 7;
    private static final int VAR_SEEN = 8;
    private static final int VAR_SPOT = 9;
    private static final int VAR_FAR = 10;
    private static final int VAR_NOISE = 11;

    private static final int OLD = WORD + VAR_OLD;
    private static final int SEEN = WORD + VAR_SEEN;
    private static final int FIDDLE = WORD + 12;
    private static final int NEW = WORD + 13;
    private static final int BARRED = WORD + 14;
    private static final int PLAYER = WORD + 15;
    private static final int HEARER = WORD + 16;
    private static final int BOW = WORD + 17;
    private static final int LAW = WORD + 18;
    private static final int PLAN = WORD + 19;
    private static final int SIT = WORD + 20;
    private static final int WITH = WORD + 21;

    /** A FIDDLE's row: old, three SOUNDS, barred; a PERSON's: hearer, three LIKINGS, habit. */
    private static final int ROW = 5;
    private static final int ROW_BARRED = 4;
    private static final int SOUNDS = 3;
    /** A SITTING's row: PERSON, BOW, seen, how many FIDDLES, and these. */
    private static final int SIT_ROW = 10;
    private static final int SIT_BOW = 1;
    private static final int SIT_SEEN = 2;
    private static final int SIT_MANY = 3;
    private static final int SIT_ORDER = 4;
    private static final int ASKED_ORDER = 10;

    /** A FACT's row: kind, PERSON (a VOID's FACT), FIDDLE, value, spot, seen. */
    private static final int FACT_ROW = 6;
    private static final int MARK = 0;
    private static final int GUESS = 1;
    private static final int VOID = 2;

    private final Reader reader = new Reader();
    private Told told = new Told();
    private final Taste taste = new Taste();
    private final Facts facts = new Facts();
    private final Known known = new Known();
    private final Steady steadiness = new Steady();
    private final Kinds byFiddles = new Kinds();
    private final Turns turns = new Turns();
    private final NearFar nearFar = new NearFar();
    private final Need needed = new Need();
    /** SAY by n as far as it has been reckoned: FACTS are only added, so it holds until a text is read. */
    private final int[] said = new int[FACTS_MOST + 1];

    public BlindFiddles() {
        Arrays.fill(said, NONE);
    }

    public int feed(int a, int b, int c, int d, int e) {
        if (reader.length + 20 > TAPE_MOST) {
            return NONE;
        }
        reader.append(a);
        reader.append(b);
        reader.append(c);
        reader.append(d);
        reader.append(e);
        return reader.length;
    }

    public int back(int n) {
        if (n < 0 || n > reader.length) {
            return NONE;
        }
        reader.length -= n;
        return reader.length;
    }

    public int read() {
        reader.begin();
        for (int i = 0; i <= TOKENS_MOST && reader.hasMore(); i++) {
            reader.takeTell();
        }
        int fault = reader.end();
        if (fault == 0) {
            Told ahead = told;
            told = reader.told;
            reader.told = ahead;
            known.by = NONE;
            Arrays.fill(said, NONE);
        }
        return fault;
    }

    public int place() {
        return reader.faultPlace;
    }

    public int fiddle(int fiddle, int what) {
        if (!told.hasFiddle(fiddle) || what < 0 || what >= ROW) {
            return NONE;
        }
        return told.fiddleRows[fiddle * ROW + what];
    }

    public int person(int person, int what) {
        if (!told.hasPerson(person) || what < 0 || what >= ROW) {
            return NONE;
        }
        return told.personRows[person * ROW + what];
    }

    public int sitting(int plan, int k, int what) {
        if (!told.hasSitting(plan, k)) {
            return NONE;
        }
        if (what >= 0 && what <= SIT_MANY) {
            return told.sat(plan, k, what);
        }
        if (what < ASKED_ORDER || what - ASKED_ORDER >= told.sat(plan, k, SIT_MANY)) {
            return NONE;
        }
        return told.sat(plan, k, SIT_ORDER + what - ASKED_ORDER);
    }

    public int liking(int law, int person, int fiddle, int bow, boolean seen, int spot, int noise) {
        if (!told.hasLaw(law) || !told.hasMeeting(person, fiddle, bow)) {
            return NO_LIKING;
        }
        if (spot < 0 || spot >= SPOTS || noise < 0 || noise >= NOISES) {
            return NO_LIKING;
        }
        taste.meet(told, person, fiddle, bow);
        taste.attend(seen ? 1 : 0, spot, noise);
        return taste.like(told, law);
    }

    public int taken(int plan, int law, int seed, int k) {
        if (!told.hasSitting(plan, k) || !told.hasLaw(law)) {
            return NONE;
        }
        return taste.choice(told, plan, k, law, seed);
    }

    public int takes(int plan, int law, int seed, int fiddle) {
        if (!told.hasPlan(plan) || !told.hasLaw(law)) {
            return NOTHING;
        }
        if (fiddle != NONE && !told.hasFiddle(fiddle)) {
            return NOTHING;
        }
        int times = 0;
        for (int k = 0; k < told.sits(plan); k++) {
            int choice = taste.choice(told, plan, k, law, seed);
            if (fiddle == NONE ? told.isOld(choice) : choice == fiddle) {
                times++;
            }
        }
        return times;
    }

    public int run(int plan, int law, int guess, int seed) {
        if (!told.hasPlan(plan) || !told.hasLaw(law) || !told.hasLaw(guess)) {
            return NONE;
        }
        int coming = told.factsOf(plan);
        if (facts.many + coming > FACTS_MOST) {
            return NONE;
        }
        for (int k = 0; k < told.sits(plan); k++) {
            for (int spot = 0; spot < told.sat(plan, k, SIT_MANY); spot++) {
                taste.seat(told, plan, k, spot, seed);
                answer(plan, k, spot, taste.like(told, law), taste.like(told, guess) > 0);
            }
        }
        return coming;
    }

    /** What a PERSON in a SITTING says of the FIDDLE at a spot becomes FACTS. */
    private void answer(int plan, int k, int spot, int liking, boolean old) {
        int person = told.sat(plan, k, 0);
        int fiddle = told.sat(plan, k, SIT_ORDER + spot);
        int seen = told.sat(plan, k, SIT_SEEN);
        facts.add(MARK, person, fiddle, Math.max(0, Math.min(100, liking)), spot, seen);
        if (seen == 0) {
            facts.add(GUESS, person, fiddle, old ? 1 : 0, NONE, NONE);
        }
    }

    public int touch(int law, int person, int fiddle, int bow, int t, boolean most) {
        if (!told.hasLaw(law) || !told.hasMeeting(person, fiddle, bow)) {
            return NO_LIKING;
        }
        if (t < 0 || t > SETTINGS_MOST) {
            return NO_LIKING;
        }
        taste.meet(told, person, fiddle, bow);
        taste.attend(0, 0, 0);
        return taste.extreme(told, law, t, most);
    }

    public long gains(int law, int bow, int t, int what) {
        if (!told.hasLaw(law) || !told.hasBow(bow)) {
            return NONE;
        }
        if (t < 0 || t > SETTINGS_MOST || what < 0 || what > 3) {
            return NONE;
        }
        boolean old = what == 0 || what == 2;
        int barred = what / 2;
        long sum = 0;
        for (int fiddle = 0; fiddle < told.fiddles; fiddle++) {
            if (told.isOld(fiddle) == old && told.fiddleRows[fiddle * ROW + ROW_BARRED] == barred) {
                sum += gainsOn(fiddle, law, bow, t);
            }
        }
        return sum;
    }

    private long gainsOn(int fiddle, int law, int bow, int t) {
        long sum = 0;
        for (int person = 0; person < told.people; person++) {
            if (told.isPlayer(person)) {
                taste.meet(told, person, fiddle, bow);
                taste.attend(0, 0, 0);
                long untouched = taste.like(told, law);
                sum += taste.extreme(told, law, t, true) - untouched;
            }
        }
        return sum;
    }

    public int mark(int person, int fiddle, int value, int spot, boolean seen) {
        if (!told.hasPerson(person) || !told.hasFiddle(fiddle)) {
            return NONE;
        }
        if (value < 0 || value > 100 || spot < 0 || spot >= SPOTS) {
            return NONE;
        }
        return facts.add(MARK, person, fiddle, value, spot, seen ? 1 : 0);
    }

    public int guess(int person, int fiddle, boolean old) {
        if (!told.hasPerson(person) || !told.hasFiddle(fiddle)) {
            return NONE;
        }
        return facts.add(GUESS, person, fiddle, old ? 1 : 0, NONE, NONE);
    }

    public int annul(int fact) {
        if (!facts.has(fact) || facts.of(fact, 0) == VOID) {
            return NONE;
        }
        return facts.add(VOID, fact, NONE, NONE, NONE, NONE);
    }

    public int fact(int fact, int what) {
        if (!facts.has(fact) || what < 0 || what >= FACT_ROW) {
            return NONE;
        }
        return facts.of(fact, what);
    }

    /** Whether there is such an n; then known has what is KNOWN by it. */
    private boolean knows(int n) {
        if (n < 0 || n > facts.many) {
            return false;
        }
        if (known.by != n) {
            known.learn(told, facts, n);
        }
        return true;
    }

    public int last(int person, int fiddle, boolean seen, int n) {
        if (!told.hasPerson(person) || !told.hasFiddle(fiddle) || !knows(n)) {
            return NONE;
        }
        int pair = person * FIDDLES_MOST + fiddle;
        int value = seen ? known.seen[pair] : known.blind[pair];
        return value == NONE ? NOTHING : value;
    }

    public int mean(int fiddle, boolean far, int n, int what) {
        if (!told.hasFiddle(fiddle) || what < 0 || what > 1 || !knows(n)) {
            return NONE;
        }
        int at = far ? FIDDLES_MOST + fiddle : fiddle;
        return what == 0 ? known.sums[at] : known.manys[at];
    }

    public int guesses(int n, int what) {
        if (what < 0 || what >= known.tally.length || !knows(n)) {
            return NONE;
        }
        return known.tally[what];
    }

    public long coin(int n, boolean more) {
        if (!knows(n)) {
            return NONE;
        }
        int m = known.tally[0];
        if (m > GUESSES_MOST) {
            return NOTHING;
        }
        return more ? Ways.orMoreHeads(m, known.tally[1]) : 1L << m;
    }

    public long table(int n, boolean more) {
        if (!knows(n)) {
            return NONE;
        }
        int m = known.tally[0];
        if (m > GUESSES_MOST) {
            return NOTHING;
        }
        int sayOld = known.tally[2];
        if (!more) {
            return Ways.choose(m, sayOld);
        }
        return Ways.orMoreTaken(m, sayOld, known.tally[3], known.tally[4]);
    }

    public int steady(int n, int what) {
        if (what < 0 || what > 1 || !knows(n)) {
            return NONE;
        }
        steadiness.gather(told, known);
        return what == 0 ? steadiness.many : steadiness.off;
    }

    public int steadyWays(int n) {
        if (!knows(n)) {
            return NONE;
        }
        steadiness.gather(told, known);
        return steadiness.ways();
    }

    public int kinds(int n, int what) {
        if (what < 0 || what > 3 || !knows(n)) {
            return NO_SUM;
        }
        byFiddles.gather(told, known);
        switch (what) {
            case 0:
                return byFiddles.olds;
            case 1:
                return byFiddles.news;
            case 2:
                return byFiddles.common;
            default:
                return byFiddles.apart();
        }
    }

    public int kindWays(int n, boolean more) {
        if (!knows(n)) {
            return NONE;
        }
        byFiddles.gather(told, known);
        return more ? byFiddles.waysWith(0) : byFiddles.all();
    }

    public int flips(int n, int what) {
        if (what < 0 || what > 1 || !knows(n)) {
            return NO_SUM;
        }
        turns.gatherPlayers(told, known);
        return what == 0 ? turns.many : turns.sum();
    }

    public int flipWays(int n) {
        if (!knows(n)) {
            return NONE;
        }
        turns.gatherPlayers(told, known);
        return turns.ways();
    }

    public int small(int n) {
        if (!knows(n)) {
            return NONE;
        }
        byFiddles.gather(told, known);
        return byFiddles.smallest();
    }

    public int knowing(int n, int what) {
        if (what < 0 || what > 2 || !knows(n)) {
            return NO_SUM;
        }
        turns.gatherKnowing(told, known);
        if (what == 0) {
            return turns.many;
        }
        return what == 1 ? turns.oldSum : turns.newSum;
    }

    public int knowingWays(int n) {
        if (!knows(n)) {
            return NONE;
        }
        turns.gatherKnowing(told, known);
        return turns.ways();
    }

    public int spot(int n, int spot, int what) {
        if (spot < 0 || spot >= SPOTS || what < 0 || what > 1 || !knows(n)) {
            return NONE;
        }
        return what == 0 ? known.spotSums[spot] : known.spotManys[spot];
    }

    public int right(int n, int fiddle) {
        if (!told.hasFiddle(fiddle) || !knows(n)) {
            return NO_SUM;
        }
        return known.putRight(told, facts, fiddle);
    }

    public int near(int n, int what) {
        if (what < 0 || what > 2 || !knows(n)) {
            return NONE;
        }
        nearFar.gather(told, known);
        if (what == 0) {
            return nearFar.many;
        }
        return what == 1 ? nearFar.alike : nearFar.unlike;
    }

    public int nearWays(int n) {
        if (!knows(n)) {
            return NONE;
        }
        nearFar.gather(told, known);
        return nearFar.ways();
    }

    public int beats(int n, int fiddle, int other) {
        if (!told.hasFiddle(fiddle) || !told.hasFiddle(other) || !knows(n)) {
            return NONE;
        }
        return known.above(told, fiddle, other);
    }

    public int winner(int n) {
        if (!knows(n)) {
            return NONE;
        }
        return known.beatingAll(told);
    }

    public int best(int n, boolean worst) {
        if (!knows(n)) {
            return NONE;
        }
        int found = NOTHING;
        int way = worst ? -1 : 1;
        for (int fiddle = 0; fiddle < told.fiddles; fiddle++) {
            if (known.hasMean(fiddle) && (found == NOTHING || known.parted(fiddle, found) == way)) {
                found = fiddle;
            }
        }
        return found;
    }

    public int need(int u, int v, int a, int b, int what) {
        if (u < 2 || u > 1000 || v < 2 || v > 1000 || what < 0 || what > 1) {
            return NONE;
        }
        if (b < 2 || b > 4 || a < 0 || a > b) {
            return NONE;
        }
        if (!needed.find(u, v, a, b)) {
            return NOTHING;
        }
        return what == 0 ? needed.tries : needed.bar;
    }

    public int parts(int plan, int law, int other, int seed) {
        if (!told.hasPlan(plan) || !told.hasLaw(law) || !told.hasLaw(other)) {
            return NONE;
        }
        return taste.unlike(told, plan, law, other, seed);
    }

    public int next(int law, int other, int seed) {
        if (!told.hasLaw(law) || !told.hasLaw(other)) {
            return NONE;
        }
        int found = NOTHING;
        int most = 0;
        int sittings = 0;
        for (int plan = 0; plan < told.plans; plan++) {
            int unlike = taste.unlike(told, plan, law, other, seed);
            boolean fewer = unlike == most && told.sits(plan) < sittings;
            if (found == NOTHING || unlike > most || fewer) {
                found = plan;
                most = unlike;
                sittings = told.sits(plan);
            }
        }
        return found;
    }

    public int say(int n) {
        if (n < 0 || n > facts.many) {
            return NONE;
        }
        return sayBy(n);
    }

    public int turned(int from) {
        if (!facts.has(from)) {
            return NONE;
        }
        for (int fact = from; fact < facts.many; fact++) {
            if (sayBy(fact + 1) != sayBy(fact)) {
                return fact;
            }
        }
        return NONE;
    }

    /** SAY, reckoned once for each n and text. */
    private int sayBy(int n) {
        if (n < 0 || n >= said.length) {
            return NONE;
        }
        if (said[n] == NONE && knows(n)) {
            said[n] = sayOfGuesses() + sayOfKinds() + sayOfPairs() + sayOfWinner();
        }
        return said[n];
    }

    private int sayOfGuesses() {
        int m = known.tally[0];
        if (m > GUESSES_MOST) {
            return 0;
        }
        return Ways.isRare(Ways.orMoreHeads(m, known.tally[1]), 1L << m) ? 1 : 0;
    }

    private int sayOfKinds() {
        byFiddles.gather(told, known);
        int bits = Ways.isRare(byFiddles.waysWith(0), byFiddles.all()) ? 2 : 0;
        turns.gatherPlayers(told, known);
        return bits + (Ways.isRare(turns.ways(), 1L << turns.many) ? 4 : 0);
    }

    private int sayOfPairs() {
        turns.gatherKnowing(told, known);
        int bits = Ways.isRare(turns.ways(), 1L << turns.many) ? 8 : 0;
        steadiness.gather(told, known);
        bits += Ways.isRare(steadiness.ways(), Ways.orders(steadiness.many)) ? 16 : 0;
        nearFar.gather(told, known);
        return bits + (Ways.isRare(nearFar.ways(), Ways.orders(nearFar.many)) ? 32 : 0);
    }

    private int sayOfWinner() {
        int fiddle = known.beatingAll(told);
        if (fiddle == NOTHING) {
            return 0;
        }
        return told.isOld(fiddle) ? 64 : 128;
    }

    public int count(int what) {
        switch (what) {
            case 0:
                return told.fiddles;
            case 1:
                return told.people;
            case 2:
                return told.bows;
            case 3:
                return told.laws;
            case 4:
                return told.plans;
            case 5:
                return facts.many;
            case 6:
                return reader.length;
            default:
                return what >= 10 && told.hasPlan(what - 10) ? told.sits(what - 10) : NONE;
        }
    }

    /** What a text tells. */
    private static final class Told {
        int fiddles;
        int people;
        int bows;
        int laws;
        int plans;
        final int[] fiddleRows = new int[FIDDLES_MOST * ROW];
        final int[] personRows = new int[PEOPLE_MOST * ROW];
        final int[] bowRows = new int[BOWS_MOST * SOUNDS];
        /** The LAWS one behind the other, operators behind what they join: an INT as it is, else a TOKEN's kind below 0. */
        final int[] code = new int[TOKENS_MOST];
        final int[] lawEnds = new int[LAWS_MOST];
        final int[] sittings = new int[PLANS_MOST];
        final int[] sitRows = new int[PLANS_MOST * SITS_MOST * SIT_ROW];

        void clear() {
            fiddles = 0;
            people = 0;
            bows = 0;
            laws = 0;
            plans = 0;
        }

        boolean hasFiddle(int fiddle) {
            return fiddle >= 0 && fiddle < fiddles;
        }

        boolean hasPerson(int person) {
            return person >= 0 && person < people;
        }

        boolean hasBow(int bow) {
            return bow >= 0 && bow < bows;
        }

        boolean hasLaw(int law) {
            return law >= 0 && law < laws;
        }

        boolean hasPlan(int plan) {
            return plan >= 0 && plan < plans;
        }

        boolean hasSitting(int plan, int k) {
            return k >= 0 && k < sits(plan);
        }

        boolean hasMeeting(int person, int fiddle, int bow) {
            return hasPerson(person) && hasFiddle(fiddle) && hasBow(bow);
        }

        boolean isOld(int fiddle) {
            return hasFiddle(fiddle) && fiddleRows[fiddle * ROW] == 1;
        }

        boolean isPlayer(int person) {
            return hasPerson(person) && personRows[person * ROW] == 0;
        }

        /** How many SITTINGS a PLAN has; 0 without the PLAN. */
        int sits(int plan) {
            return hasPlan(plan) ? sittings[plan] : 0;
        }

        /** What stands in a SITTING's row; NONE without it. */
        int sat(int plan, int k, int column) {
            if (!hasSitting(plan, k) || column < 0 || column >= SIT_ROW) {
                return NONE;
            }
            return sitRows[(plan * SITS_MOST + k) * SIT_ROW + column];
        }

        /** Where a LAW's code begins and ends; without the LAW there is none between. */
        int lawStart(int law) {
            return law > 0 && hasLaw(law) ? lawEnds[law - 1] : 0;
        }

        int lawEnd(int law) {
            return hasLaw(law) ? lawEnds[law] : 0;
        }

        /** How many FACTS a RUN of the PLAN brings. */
        int factsOf(int plan) {
            int coming = 0;
            for (int k = 0; k < sits(plan); k++) {
                int many = sat(plan, k, SIT_MANY);
                coming += sat(plan, k, SIT_SEEN) == 1 ? many : 2 * many;
            }
            return coming;
        }
    }

    /** The tape, and how it is read: one pass that finds the FAULT and writes down what is told. */
    private static final class Reader {
        int length;
        int faultPlace = NONE;
        /** What is written down while it is read; it comes in place of the one ahead only without a FAULT. */
        Told told = new Told();
        private final byte[] tape = new byte[TAPE_MOST];
        /** The TOKENS, the 401st too; behind fewer the END or what is BAD. */
        private final int[] kinds = new int[TOKENS_MOST + 1];
        private final int[] starts = new int[TOKENS_MOST + 1];
        private int at;
        private int fault;
        /** The first FAULT of 3 to 5: it counts only if there is none of 1 and 2 in the whole text. */
        private int laterFault;
        private int laterPlace;
        private final long[] nameKeys = new long[NAMES_MOST];
        private final int[] nameKinds = new int[NAMES_MOST];
        private final int[] nameNumbers = new int[NAMES_MOST];
        private int names;
        /** Operators and brackets of an E that wait for what stands behind them. */
        private final int[] waiting = new int[STACK_MOST];
        private int waits;
        private int open;
        private boolean unitDue;
        private int codes;

        void append(int four) {
            for (int shift = 24; shift >= 0 && length < TAPE_MOST; shift -= 8) {
                tape[length] = (byte) (four >> shift);
                length++;
            }
        }

        void begin() {
            told.clear();
            at = 0;
            fault = 0;
            laterFault = 0;
            names = 0;
            codes = 0;
            scan();
        }

        boolean hasMore() {
            return fault == 0 && kinds[at] != END;
        }

        /** Empties the tape: the FAULT's number, or 0. */
        int end() {
            // No TOKEN is gone over once there is a FAULT of 1 or 2: it is where the reading stands.
            faultPlace = fault == 0 ? NONE : starts[at];
            if (fault == 0 && laterFault != 0) {
                fault = laterFault;
                faultPlace = laterPlace;
            }
            length = 0;
            return fault;
        }

        private void scan() {
            int from = 0;
            for (int i = 0; i <= TOKENS_MOST; i++) {
                while (from < length && isBlank(tape[from])) {
                    from++;
                }
                int to = endOf(from);
                starts[i] = from;
                kinds[i] = kindOf(from, to);
                if (kinds[i] == END || kinds[i] == BAD) {
                    return;
                }
                from = to;
            }
        }

        private static boolean isBlank(int sign) {
            return sign == 9 || sign == 10 || sign == 13 || sign == 32;
        }

        private boolean isLetter(int i) {
            return i < length && tape[i] >= 'a' && tape[i] <= 'z';
        }

        private boolean isDigit(int i) {
            return i < length && tape[i] >= '0' && tape[i] <= '9';
        }

        /** Where what begins at a byte ends, as long as it can be. */
        private int endOf(int from) {
            int to = from;
            while (to < length && isLetter(to)) {
                to++;
            }
            if (to > from) {
                return to;
            }
            while (to < length && isDigit(to)) {
                to++;
            }
            if (to > from || from >= length) {
                return to;
            }
            boolean twice = tape[from] == '=' && from + 1 < length && tape[from + 1] == '=';
            return twice ? from + 2 : from + 1;
        }

        private int kindOf(int from, int to) {
            if (from >= length) {
                return END;
            }
            if (isLetter(from)) {
                return to - from > WORD_WIDTH ? BAD : wordOf(from, to);
            }
            if (isDigit(from)) {
                return to - from > INT_WIDTH ? BAD : INT;
            }
            if (to - from == 2) {
                return SAME;
            }
            int sign = tape[from] & 255;
            return SIGNS.indexOf((char) sign) < 0 ? BAD : sign;
        }

        private int wordOf(int from, int to) {
            for (int word = 0; word < WORDS_MANY; word++) {
                if (isWord(word, from, to)) {
                    return WORD + word;
                }
            }
            return NAME;
        }

        private boolean isWord(int word, int from, int to) {
            for (int i = 0; i < WORD_WIDTH; i++) {
                int sign = from + i < to ? tape[from + i] : ' ';
                if (WORDS.charAt(word * WORD_WIDTH + i) != sign) {
                    return false;
                }
            }
            return true;
        }

        private void failLater(int number, int place) {
            if (laterFault == 0) {
                laterFault = number;
                laterPlace = place;
            }
        }

        /** Goes over a TOKEN of the kind; with another, or the 401st, the text has its FAULT here. */
        private boolean pass(int kind) {
            if (fault == 0 && kinds[at] != kind) {
                fault = SYNTAX;
            } else if (fault == 0 && at >= TOKENS_MOST) {
                fault = ROOM;
            } else if (fault == 0) {
                at++;
                return true;
            }
            return false;
        }

        /** Likewise, if it stands there, or nothing. */
        private boolean passIf(int kind) {
            return kinds[at] == kind && pass(kind);
        }

        /** Goes over the first TOKEN of one more of what may be told so often at most. */
        private boolean passFirst(int many, int most) {
            if (fault == 0 && many >= most) {
                fault = ROOM;
            }
            return pass(kinds[at]);
        }

        void takeTell() {
            switch (kinds[at]) {
                case FIDDLE:
                    takeFiddle();
                    break;
                case PLAYER:
                    takePerson(0);
                    break;
                case HEARER:
                    takePerson(1);
                    break;
                case BOW:
                    takeBow();
                    break;
                case LAW:
                    takeLaw();
                    break;
                case PLAN:
                    takePlan();
                    break;
                default:
                    fault = SYNTAX;
                    break;
            }
        }

        private void takeFiddle() {
            int fiddle = told.fiddles;
            if (!passFirst(fiddle, FIDDLES_MOST)) {
                return;
            }
            int row = fiddle * ROW;
            takeNewName(FIDDLE, fiddle);
            boolean old = passIf(OLD);
            if (!old) {
                pass(NEW);
            }
            told.fiddleRows[row] = old ? 1 : 0;
            for (int i = 1; i <= SOUNDS; i++) {
                told.fiddleRows[row + i] = takeInt(20);
            }
            told.fiddleRows[row + ROW_BARRED] = passIf(BARRED) ? 1 : 0;
            pass(';');
            told.fiddles++;
        }

        private void takePerson(int hearer) {
            int person = told.people;
            if (!passFirst(person, PEOPLE_MOST)) {
                return;
            }
            int row = person * ROW;
            takeNewName(PLAYER, person);
            told.personRows[row] = hearer;
            for (int i = 1; i < ROW; i++) {
                told.personRows[row + i] = takeInt(9);
            }
            pass(';');
            told.people++;
        }

        private void takeBow() {
            int bow = told.bows;
            if (!passFirst(bow, BOWS_MOST)) {
                return;
            }
            takeNewName(BOW, bow);
            for (int i = 0; i < SOUNDS; i++) {
                boolean below = passIf('-');
                int number = takeInt(9);
                told.bowRows[bow * SOUNDS + i] = below ? -number : number;
            }
            pass(';');
            told.bows++;
        }

        private void takeLaw() {
            int law = told.laws;
            if (!passFirst(law, LAWS_MOST)) {
                return;
            }
            takeNewName(LAW, law);
            pass('=');
            takeExpression();
            pass(';');
            told.lawEnds[law] = codes;
            told.laws++;
        }

        private void takePlan() {
            int plan = told.plans;
            if (!passFirst(plan, PLANS_MOST)) {
                return;
            }
            takeNewName(PLAN, plan);
            pass('{');
            told.sittings[plan] = 0;
            for (int i = 0; i <= SITS_MOST && fault == 0 && kinds[at] == SIT; i++) {
                takeSit(plan);
            }
            pass('}');
            told.plans++;
        }

        private void takeSit(int plan) {
            int k = told.sittings[plan];
            if (!passFirst(k, SITS_MOST)) {
                return;
            }
            int row = (plan * SITS_MOST + k) * SIT_ROW;
            told.sitRows[row] = takeToldName(PLAYER);
            pass(WITH);
            told.sitRows[row + SIT_BOW] = takeToldName(BOW);
            told.sitRows[row + SIT_SEEN] = passIf(SEEN) ? 1 : 0;
            told.sitRows[row + SIT_MANY] = 0;
            pass(':');
            takeOrdered(row);
            for (int i = 0; i < ORDER_MOST && passIf(','); i++) {
                takeOrdered(row);
            }
            pass(';');
            told.sittings[plan]++;
        }

        /** One more FIDDLE of a sit. */
        private void takeOrdered(int row) {
            int many = told.sitRows[row + SIT_MANY];
            if (many >= ORDER_MOST && fault == 0 && kinds[at] == NAME) {
                fault = ROOM;
            }
            int place = starts[at];
            int fiddle = takeToldName(FIDDLE);
            if (fault != 0 || many >= ORDER_MOST) {
                return;
            }
            for (int i = 0; i < many; i++) {
                if (fiddle != NONE && told.sitRows[row + SIT_ORDER + i] == fiddle) {
                    failLater(TWICE, place);
                }
            }
            told.sitRows[row + SIT_ORDER + many] = fiddle;
            told.sitRows[row + SIT_MANY] = many + 1;
        }

        private int takeInt(int most) {
            int place = starts[at];
            if (!pass(INT)) {
                return 0;
            }
            int number = 0;
            for (int i = place; i < place + INT_WIDTH && isDigit(i); i++) {
                number = number * 10 + tape[i] - '0';
            }
            if (number > most) {
                failLater(WRONG, place);
            }
            return number;
        }

        /** A NAME's letters as one number: two NAMES are alike if these are. */
        private long keyAt(int place) {
            long key = 0;
            for (int i = place; i < place + WORD_WIDTH && isLetter(i); i++) {
                key = key * 32 + tape[i] - 'a' + 1;
            }
            return key;
        }

        private int nameOf(long key) {
            for (int name = 0; name < names; name++) {
                if (nameKeys[name] == key) {
                    return name;
                }
            }
            return NONE;
        }

        private void takeNewName(int kind, int number) {
            int place = starts[at];
            if (!pass(NAME)) {
                return;
            }
            long key = keyAt(place);
            if (nameOf(key) != NONE) {
                failLater(TWICE, place);
            } else if (names < NAMES_MOST) {
                nameKeys[names] = key;
                nameKinds[names] = kind;
                nameNumbers[names] = number;
                names++;
            }
        }

        /** The number of what is told ahead, of the kind, by the NAME that stands here. */
        private int takeToldName(int kind) {
            int place = starts[at];
            if (!pass(NAME)) {
                return NONE;
            }
            int name = nameOf(keyAt(place));
            if (name == NONE || nameKinds[name] != kind) {
                failLater(NO_NAME, place);
                return NONE;
            }
            return nameNumbers[name];
        }

        /** An E without recursion: operators wait until one that binds no more, a bracket or the E's end comes. */
        private void takeExpression() {
            waits = 0;
            open = 0;
            unitDue = true;
            boolean more = true;
            for (int i = 0; i <= TOKENS_MOST && more && fault == 0; i++) {
                if (unitDue) {
                    startUnit();
                } else {
                    more = goOn();
                }
            }
        }

        private void startUnit() {
            int kind = kinds[at];
            if (kind == '(' || kind == '[') {
                if (passFirst(open, OPEN_MOST)) {
                    open++;
                    hold(kind);
                }
                return;
            }
            unitDue = false;
            if (kind >= WORD && kind < WORD + VARS) {
                pass(kind);
                write(-kind);
            } else {
                write(takeInt(9999));
            }
        }

        /** What stands behind a UNIT: false if the E ends ahead of it. */
        private boolean goOn() {
            int kind = kinds[at];
            settle('*', '*');
            if (kind == '*') {
                return join(kind);
            }
            settle('+', '-');
            if (kind == '+' || kind == '-') {
                return join(kind);
            }
            return open > 0 && closeOrCompare(kind);
        }

        private boolean join(int kind) {
            unitDue = true;
            hold(kind);
            return pass(kind);
        }

        /** In a bracket, with no operator waiting in it. */
        private boolean closeOrCompare(int kind) {
            if (waits == 0) {
                return false;
            }
            int bracket = waiting[waits - 1];
            if (bracket == '[') {
                waiting[waits - 1] = kind;
                unitDue = true;
                return pass(kind == SAME ? SAME : '<');
            }
            if (!pass(bracket == '(' ? ')' : ']')) {
                return false;
            }
            if (bracket != '(') {
                write(-bracket);
            }
            waits--;
            open--;
            return true;
        }

        private void hold(int kind) {
            if (waits < STACK_MOST) {
                waiting[waits] = kind;
                waits++;
            }
        }

        /** Writes down the operators of the two kinds that wait on top. */
        private void settle(int kind, int other) {
            while (waits > 0 && (waiting[waits - 1] == kind || waiting[waits - 1] == other)) {
                waits--;
                write(-waiting[waits]);
            }
        }

        private void write(int code) {
            if (codes < TOKENS_MOST) {
                told.code[codes] = code;
                codes++;
            }
        }
    }

    /** LIKING: the VARs are put first, then a LAW's code is worked through. */
    private static final class Taste {
        private final int[] vars = new int[VARS];
        private final int[] stack = new int[STACK_MOST];

        /** Puts the VARs of those that meet, if all are there. */
        void meet(Told told, int person, int fiddle, int bow) {
            if (!told.hasMeeting(person, fiddle, bow)) {
                return;
            }
            for (int i = 0; i < SOUNDS; i++) {
                vars[VAR_SOUNDS + i] = told.fiddleRows[fiddle * ROW + 1 + i] + told.bowRows[bow * SOUNDS + i];
            }
            for (int i = 0; i < ROW - 1; i++) {
                vars[VAR_LIKINGS + i] = told.personRows[person * ROW + 1 + i];
            }
            vars[VAR_OLD] = told.fiddleRows[fiddle * ROW];
            vars[VAR_FAR] = told.personRows[person * ROW];
        }

        /** Puts the VARs of how they meet. */
        void attend(int seen, int spot, int noise) {
            vars[VAR_SEEN] = seen;
            vars[VAR_SPOT] = spot;
            vars[VAR_NOISE] = noise;
        }

        /** Puts all VARs as at a spot of a SITTING. */
        void seat(Told told, int plan, int k, int spot, int seed) {
            meet(told, told.sat(plan, k, 0), told.sat(plan, k, SIT_ORDER + spot), told.sat(plan, k, SIT_BOW));
            attend(told.sat(plan, k, SIT_SEEN), spot, noiseOf(seed, 10 * k + spot));
        }

        /** LOT 10. */
        private static int noiseOf(int seed, int which) {
            int h = stirred(stirred(seed, 11), which);
            return (h >>> 1) % NOISES;
        }

        private static int stirred(int h, int it) {
            int mixed = (h ^ it) * 1103515245 + 12345;
            return mixed ^ (mixed >>> 15);
        }

        /** LIKING by a LAW, with the VARs as they are put; 0 without the LAW. */
        int like(Told told, int law) {
            int end = told.lawEnd(law);
            int top = 0;
            stack[0] = 0;
            for (int at = told.lawStart(law); at < end; at++) {
                int code = told.code[at];
                int which = -code - WORD;
                boolean pushes = code >= 0 || which >= 0 && which < VARS;
                if (pushes && top < STACK_MOST) {
                    stack[top] = code >= 0 ? code : vars[which];
                    top++;
                } else if (!pushes && top >= 2) {
                    top--;
                    stack[top - 1] = joined(-code, stack[top - 1], stack[top]);
                }
            }
            return stack[0];
        }

        private static int joined(int kind, int left, int right) {
            switch (kind) {
                case '+':
                    return left + right;
                case '-':
                    return left - right;
                case '*':
                    return left * right;
                case '<':
                    return left < right ? 1 : 0;
                default:
                    return left == right ? 1 : 0;
            }
        }

        /** A SOUND that the LAW does not name need not be put in all ways. */
        private static int reach(Told told, int law, int sound, int t) {
            int end = told.lawEnd(law);
            for (int at = told.lawStart(law); at < end; at++) {
                if (told.code[at] == -WORD - VAR_SOUNDS - sound) {
                    return t;
                }
            }
            return 0;
        }

        /** The greatest or least LIKING with SETTINGS of t; bright and loud are left as they were put last. */
        int extreme(Told told, int law, int t, boolean most) {
            int bright = vars[VAR_SOUNDS];
            int loud = vars[VAR_SOUNDS + 1];
            int brightReach = reach(told, law, 0, t);
            int loudReach = reach(told, law, 1, t);
            int quickReach = reach(told, law, 2, t);
            int found = most ? -2147483648 : 2147483647;
            for (int i = -brightReach; i <= brightReach; i++) {
                vars[VAR_SOUNDS] = bright + i;
                for (int j = -loudReach; j <= loudReach; j++) {
                    vars[VAR_SOUNDS + 1] = loud + j;
                    int here = extremeOfQuick(told, law, quickReach, most);
                    found = most ? Math.max(found, here) : Math.min(found, here);
                }
            }
            return found;
        }

        private int extremeOfQuick(Told told, int law, int reach, boolean most) {
            int quick = vars[VAR_SOUNDS + 2];
            int found = most ? -2147483648 : 2147483647;
            for (int i = -reach; i <= reach; i++) {
                vars[VAR_SOUNDS + 2] = quick + i;
                int here = like(told, law);
                found = most ? Math.max(found, here) : Math.min(found, here);
            }
            vars[VAR_SOUNDS + 2] = quick;
            return found;
        }

        /** TAKEN in a SITTING; NONE without it. */
        int choice(Told told, int plan, int k, int law, int seed) {
            int choice = NONE;
            int most = 0;
            for (int spot = 0; spot < told.sat(plan, k, SIT_MANY); spot++) {
                seat(told, plan, k, spot, seed);
                int liking = like(told, law);
                if (choice == NONE || liking > most) {
                    choice = told.sat(plan, k, SIT_ORDER + spot);
                    most = liking;
                }
            }
            return choice;
        }

        /** PARTS; 0 without the PLAN. */
        int unlike(Told told, int plan, int law, int other, int seed) {
            int unlike = 0;
            for (int k = 0; k < told.sits(plan); k++) {
                if (choice(told, plan, k, law, seed) != choice(told, plan, k, other, seed)) {
                    unlike++;
                }
            }
            return unlike;
        }
    }

    /** The FACTS, with NONE for what one has not. */
    private static final class Facts {
        int many;
        private final int[] rows = new int[FACTS_MOST * FACT_ROW];

        boolean has(int fact) {
            return fact >= 0 && fact < many;
        }

        /** What stands in a FACT's row; NONE without it. */
        int of(int fact, int column) {
            if (!has(fact) || column < 0 || column >= FACT_ROW) {
                return NONE;
            }
            return rows[fact * FACT_ROW + column];
        }

        int add(int kind, int person, int fiddle, int value, int spot, int seen) {
            if (many >= FACTS_MOST) {
                return NONE;
            }
            int row = many * FACT_ROW;
            rows[row] = kind;
            rows[row + 1] = person;
            rows[row + 2] = fiddle;
            rows[row + 3] = value;
            rows[row + 4] = spot;
            rows[row + 5] = seen;
            many++;
            return many - 1;
        }
    }

    /** What is KNOWN by an n. */
    private static final class Known {
        /** The n; NONE if nothing is learnt since a text was read. */
        int by = NONE;
        /** 1 for each FACT that is KNOWN and of a PERSON and a FIDDLE that are there. */
        private final int[] counts = new int[FACTS_MOST];
        /** By PERSON, then FIDDLE: the LAST blind MARK, the one ahead of it, the LAST seen; NONE without. */
        final int[] blind = new int[PEOPLE_MOST * FIDDLES_MOST];
        final int[] earlier = new int[PEOPLE_MOST * FIDDLES_MOST];
        final int[] seen = new int[PEOPLE_MOST * FIDDLES_MOST];
        /** MEANS: S and N of each FIDDLE, the players' ones first, then the hearers'. */
        final int[] sums = new int[2 * FIDDLES_MOST];
        final int[] manys = new int[2 * FIDDLES_MOST];
        final int[] spotSums = new int[SPOTS];
        final int[] spotManys = new int[SPOTS];
        /** GUESSES: m, r, u, t, a. */
        final int[] tally = new int[5];

        /** Learns what is KNOWN by an n, which is held to how many FACTS there are. */
        void learn(Told told, Facts facts, int n) {
            by = Math.max(0, Math.min(n, facts.many));
            clear();
            sift(told, facts);
            for (int fact = 0; fact < by; fact++) {
                if (counts[fact] == 1 && facts.of(fact, 0) == MARK) {
                    learnMark(told, facts, fact);
                } else if (counts[fact] == 1) {
                    learnGuess(told.isOld(facts.of(fact, 2)), facts.of(fact, 3) == 1);
                }
            }
            learnMeans(told);
        }

        private void clear() {
            Arrays.fill(counts, 0);
            Arrays.fill(blind, NONE);
            Arrays.fill(earlier, NONE);
            Arrays.fill(seen, NONE);
            Arrays.fill(sums, 0);
            Arrays.fill(manys, 0);
            Arrays.fill(spotSums, 0);
            Arrays.fill(spotManys, 0);
            Arrays.fill(tally, 0);
        }

        private void sift(Told told, Facts facts) {
            for (int fact = 0; fact < by; fact++) {
                int named = facts.of(fact, 1);
                boolean isVoid = facts.of(fact, 0) == VOID;
                if (isVoid && facts.has(named)) {
                    // A VOID names a FACT ahead of it, so that one has been looked at.
                    counts[named] = 0;
                } else if (!isVoid && told.hasPerson(named) && told.hasFiddle(facts.of(fact, 2))) {
                    counts[fact] = 1;
                }
            }
        }

        private void learnMark(Told told, Facts facts, int fact) {
            int person = facts.of(fact, 1);
            int pair = person * FIDDLES_MOST + facts.of(fact, 2);
            int value = facts.of(fact, 3);
            if (facts.of(fact, 5) == 1) {
                seen[pair] = value;
                return;
            }
            earlier[pair] = blind[pair];
            blind[pair] = value;
            int spot = facts.of(fact, 4);
            if (told.isPlayer(person) && spot >= 0 && spot < SPOTS) {
                spotSums[spot] += value;
                spotManys[spot]++;
            }
        }

        private void learnGuess(boolean isOld, boolean saysOld) {
            tally[0]++;
            tally[1] += isOld == saysOld ? 1 : 0;
            tally[2] += saysOld ? 1 : 0;
            tally[3] += isOld ? 1 : 0;
            tally[4] += isOld && saysOld ? 1 : 0;
        }

        private void learnMeans(Told told) {
            for (int person = 0; person < told.people; person++) {
                int side = told.isPlayer(person) ? 0 : FIDDLES_MOST;
                for (int fiddle = 0; fiddle < told.fiddles; fiddle++) {
                    int value = blind[person * FIDDLES_MOST + fiddle];
                    if (value != NONE) {
                        sums[side + fiddle] += value;
                        manys[side + fiddle]++;
                    }
                }
            }
        }

        /** Whether there is a MEAN of a FIDDLE, or FIDDLES_MOST behind it its hearers' MEAN. */
        boolean hasMean(int mean) {
            return mean >= 0 && mean < manys.length && manys[mean] > 0;
        }

        /** 1 if one MEAN is above the other, -1 if below, 0 if alike or not both there. */
        int parted(int mean, int other) {
            if (!hasMean(mean) || !hasMean(other)) {
                return 0;
            }
            int one = sums[mean] * manys[other];
            int two = sums[other] * manys[mean];
            if (one == two) {
                return 0;
            }
            return one > two ? 1 : -1;
        }

        /** PUT RIGHT. */
        int putRight(Told told, Facts facts, int fiddle) {
            int sum = 0;
            for (int fact = 0; fact < by; fact++) {
                if (counts[fact] == 1 && isBlindMark(told, facts, fact) && facts.of(fact, 2) == fiddle) {
                    sum += 100 * facts.of(fact, 3) - spotMean(facts.of(fact, 4));
                }
            }
            return sum;
        }

        /** 100 times a spot's sum by how many, rounded towards 0; 0 without any. */
        private int spotMean(int spot) {
            if (spot < 0 || spot >= SPOTS || spotManys[spot] == 0) {
                return 0;
            }
            return 100 * spotSums[spot] / spotManys[spot];
        }

        private static boolean isBlindMark(Told told, Facts facts, int fact) {
            return facts.of(fact, 0) == MARK && facts.of(fact, 5) == 0 && told.isPlayer(facts.of(fact, 1));
        }

        /** BEATS; 0 without both FIDDLES. */
        int above(Told told, int fiddle, int other) {
            if (!told.hasFiddle(fiddle) || !told.hasFiddle(other)) {
                return 0;
            }
            int players = 0;
            for (int person = 0; person < told.people; person++) {
                int one = blind[person * FIDDLES_MOST + fiddle];
                int two = blind[person * FIDDLES_MOST + other];
                if (told.isPlayer(person) && two != NONE && one > two) {
                    players++;
                }
            }
            return players;
        }

        /** THE WINNER. */
        int beatingAll(Told told) {
            for (int fiddle = 0; fiddle < told.fiddles; fiddle++) {
                if (hasMean(fiddle) && beatsOthers(told, fiddle)) {
                    return fiddle;
                }
            }
            return NOTHING;
        }

        private boolean beatsOthers(Told told, int fiddle) {
            for (int other = 0; other < told.fiddles; other++) {
                if (other != fiddle && hasMean(other)
                        && above(told, fiddle, other) <= above(told, other, fiddle)) {
                    return false;
                }
            }
            return true;
        }
    }

    /** STEADY: how far players are from themselves. */
    private static final class Steady {
        private static final int MOST = 7;
        int many;
        int off;
        private final int[] firsts = new int[MOST];
        private final int[] laters = new int[MOST];

        void gather(Told told, Known known) {
            many = 0;
            off = 0;
            for (int pair = 0; pair < told.people * FIDDLES_MOST && many < MOST; pair++) {
                if (told.isPlayer(pair / FIDDLES_MOST) && known.earlier[pair] != NONE) {
                    firsts[many] = known.earlier[pair];
                    laters[many] = known.blind[pair];
                    off += Math.abs(firsts[many] - laters[many]);
                    many++;
                }
            }
        }

        int ways() {
            return waysFrom(this, 0, 0, off);
        }

        /** Ways to give the laters that are not given (bits) to the firsts from one on, with no more off than is left. */
        private static int waysFrom(Steady it, int at, int given, int left) {
            if (left < 0) {
                return 0;
            }
            if (at >= it.many) {
                return 1;
            }
            int ways = 0;
            for (int i = 0; i < it.many; i++) {
                if ((given & 1 << i) == 0) {
                    ways += waysFrom(it, at + 1, given | 1 << i, left - Math.abs(it.firsts[at] - it.laters[i]));
                }
            }
            return ways;
        }
    }

    /** KINDS BY FIDDLES. */
    private static final class Kinds {
        int olds;
        int news;
        /** L. */
        int common;
        private int many;
        private final int[] worths = new int[FIDDLES_MOST];
        private final int[] isOld = new int[FIDDLES_MOST];
        private final int[] raised = new int[FIDDLES_MOST];

        void gather(Told told, Known known) {
            olds = 0;
            many = 0;
            common = 1;
            for (int fiddle = 0; fiddle < told.fiddles; fiddle++) {
                if (known.manys[fiddle] > 0) {
                    common = Ways.commonMultiple(common, known.manys[fiddle]);
                }
            }
            for (int fiddle = 0; fiddle < told.fiddles; fiddle++) {
                int players = known.manys[fiddle];
                if (players > 0) {
                    worths[many] = known.sums[fiddle] * (common / players);
                    isOld[many] = told.isOld(fiddle) ? 1 : 0;
                    olds += isOld[many];
                    many++;
                }
            }
            news = many - olds;
        }

        /** D. */
        int apart() {
            int apart = 0;
            for (int i = 0; i < many; i++) {
                apart += isOld[i] == 1 ? news * worths[i] : -olds * worths[i];
            }
            return apart;
        }

        int all() {
            return (int) Ways.choose(many, olds);
        }

        /** The ways, if all LAST blind MARKS of players on old FIDDLES were x more. */
        int waysWith(int x) {
            int sum = 0;
            for (int i = 0; i < many; i++) {
                raised[i] = worths[i] + isOld[i] * x * common;
                sum += isOld[i] * raised[i];
            }
            // All V have one sum: D is not below just if that of those called old is not.
            return waysFrom(this, 0, olds, sum);
        }

        /** Ways to call so many from one on old, whose V are not below what lacks. */
        private static int waysFrom(Kinds it, int at, int left, int lacks) {
            if (left == 0) {
                return lacks <= 0 ? 1 : 0;
            }
            if (it.many - at < left) {
                return 0;
            }
            return waysFrom(it, at + 1, left - 1, lacks - it.raised[at]) + waysFrom(it, at + 1, left, lacks);
        }

        /** HOW SMALL. */
        int smallest() {
            int all = all();
            for (int x = 0; x <= 100 && all >= 20; x++) {
                if (Ways.isRare(waysWith(x), all)) {
                    return x;
                }
            }
            return NOTHING;
        }
    }

    /** Numbers whose signs may be turned: of KINDS BY PLAYERS, or of KNOWING. */
    private static final class Turns {
        private static final int MOST = 12;
        int many;
        int oldSum;
        int newSum;
        private final int[] numbers = new int[MOST];

        private void clear() {
            many = 0;
            oldSum = 0;
            newSum = 0;
        }

        private void add(int number) {
            if (many < MOST) {
                numbers[many] = number;
                many++;
            }
        }

        void gatherPlayers(Told told, Known known) {
            clear();
            for (int person = 0; person < told.people; person++) {
                if (told.isPlayer(person)) {
                    gatherPlayer(told, known, person);
                }
            }
        }

        private void gatherPlayer(Told told, Known known, int person) {
            int olds = 0;
            int news = 0;
            int onOld = 0;
            int onNew = 0;
            for (int fiddle = 0; fiddle < told.fiddles; fiddle++) {
                int value = known.blind[person * FIDDLES_MOST + fiddle];
                if (value != NONE && told.isOld(fiddle)) {
                    olds++;
                    onOld += value;
                } else if (value != NONE) {
                    news++;
                    onNew += value;
                }
            }
            if (olds > 0 && news > 0) {
                add(onOld * news - onNew * olds);
            }
        }

        void gatherKnowing(Told told, Known known) {
            clear();
            for (int pair = 0; pair < told.people * FIDDLES_MOST && many < MOST; pair++) {
                boolean both = known.blind[pair] != NONE && known.seen[pair] != NONE;
                if (both && told.isPlayer(pair / FIDDLES_MOST)) {
                    int more = known.seen[pair] - known.blind[pair];
                    add(more);
                    if (told.isOld(pair % FIDDLES_MOST)) {
                        oldSum += more;
                    } else {
                        newSum += more;
                    }
                }
            }
        }

        int sum() {
            int sum = 0;
            for (int i = 0; i < many; i++) {
                sum += numbers[i];
            }
            return sum;
        }

        int ways() {
            int low = 0;
            int high = 0;
            for (int i = 0; i < many; i++) {
                low += Math.min(0, numbers[i]);
                high += Math.max(0, numbers[i]);
            }
            return waysFrom(this, 0, 0, low, high);
        }

        /**
         * The sum is not below what it is just if the numbers that are turned have a sum not above 0.
         * Those from one on can bring low .. high to it: often that tells enough.
         */
        private static int waysFrom(Turns it, int at, int turned, int low, int high) {
            if (turned + low > 0) {
                return 0;
            }
            if (turned + high <= 0 || at >= it.many) {
                return 1 << (it.many - at);
            }
            int number = it.numbers[at];
            int lower = low - Math.min(0, number);
            int higher = high - Math.max(0, number);
            return waysFrom(it, at + 1, turned, lower, higher) + waysFrom(it, at + 1, turned + number, lower, higher);
        }
    }

    /** NEAR AND FAR. */
    private static final class NearFar {
        private static final int MOST = 6;
        int many;
        int alike;
        int unlike;
        private final int[] here = new int[MOST];
        /** How the two MEANS part each two of the FIDDLES. */
        private final int[] nears = new int[MOST * MOST];
        private final int[] fars = new int[MOST * MOST];
        /** Whose hearers' MEAN each FIDDLE is given. */
        private final int[] given = new int[MOST];

        void gather(Told told, Known known) {
            many = 0;
            alike = 0;
            unlike = 0;
            for (int fiddle = 0; fiddle < told.fiddles && many < MOST; fiddle++) {
                if (known.hasMean(fiddle) && known.hasMean(FIDDLES_MOST + fiddle)) {
                    here[many] = fiddle;
                    many++;
                }
            }
            for (int i = 0; i < many; i++) {
                for (int j = 0; j < many; j++) {
                    gatherTwo(known, i, j);
                }
            }
        }

        private void gatherTwo(Known known, int i, int j) {
            int near = known.parted(here[i], here[j]);
            int far = known.parted(FIDDLES_MOST + here[i], FIDDLES_MOST + here[j]);
            nears[i * MOST + j] = near;
            fars[i * MOST + j] = far;
            if (i < j && near * far == 1) {
                alike++;
            }
            if (i < j && near * far == -1) {
                unlike++;
            }
        }

        int ways() {
            return waysFrom(this, 0, 0, alike - unlike);
        }

        /** Ways to give the MEANS that are not given (bits) to the FIDDLES from one on, with what lacks or more. */
        private static int waysFrom(NearFar it, int at, int used, int lacks) {
            if (at >= it.many) {
                return lacks <= 0 ? 1 : 0;
            }
            int ways = 0;
            for (int i = 0; i < it.many; i++) {
                if ((used & 1 << i) == 0) {
                    it.given[at] = i;
                    ways += waysFrom(it, at + 1, used | 1 << i, lacks - it.alikeWithThoseAhead(at));
                }
            }
            return ways;
        }

        private int alikeWithThoseAhead(int at) {
            int sum = 0;
            for (int i = 0; i < at; i++) {
                sum += nears[i * MOST + at] * fars[given[i] * MOST + given[at]];
            }
            return sum;
        }
    }

    /** NEED: rows by how many are right, for one try more each time. */
    private static final class Need {
        private static final int MOST = 30;
        int tries;
        int bar;
        private final long[] coins = new long[MOST + 1];
        private final long[] guided = new long[MOST + 1];

        boolean find(int u, int v, int a, int b) {
            Arrays.fill(coins, 0);
            Arrays.fill(guided, 0);
            coins[0] = 1;
            guided[0] = 1;
            long allCoins = 1;
            long allGuided = 1;
            for (int n = 1; n <= MOST; n++) {
                addTry(coins, n, 1, 1);
                addTry(guided, n, a, b - a);
                allCoins *= 2;
                allGuided *= b;
                // x times y is not above z just if y is not above z / x, which stays within 64 bits.
                int least = leastBar(n, allCoins, allCoins / Math.max(1, u), allGuided / Math.max(1, v));
                if (least != NONE) {
                    tries = n;
                    bar = least;
                    return true;
                }
            }
            return false;
        }

        private static void addTry(long[] rows, int n, long right, long wrong) {
            for (int k = n; k > 0; k--) {
                rows[k] = rows[k] * wrong + rows[k - 1] * right;
            }
            rows[0] *= wrong;
        }

        private int leastBar(int n, long allCoins, long coinsMost, long guidedMost) {
            long orMore = allCoins;
            long fewer = 0;
            for (int r = 0; r <= n; r++) {
                if (orMore <= coinsMost && fewer <= guidedMost) {
                    return r;
                }
                orMore -= coins[r];
                fewer += guided[r];
            }
            return NONE;
        }
    }

    /** Counting that is of no one's own. */
    private static final class Ways {
        /** Whether 20 times the ways are not above all, without leaving 64 bits. */
        static boolean isRare(long ways, long all) {
            return ways <= all / 20;
        }

        /** Ways to take k of n, which is 60 at most: all on the way stays within 64 bits. */
        static long choose(int n, int k) {
            if (k < 0 || k > n) {
                return 0;
            }
            long ways = 1;
            for (int i = 0; i < k; i++) {
                ways = ways * (n - i) / (i + 1);
            }
            return ways;
        }

        static long orMoreHeads(int m, int r) {
            long ways = 0;
            for (int k = r; k <= m; k++) {
                ways += choose(m, k);
            }
            return ways;
        }

        /** Ways to take u of m by which a or more of the t are taken. */
        static long orMoreTaken(int m, int u, int t, int a) {
            long ways = 0;
            for (int k = a; k <= t; k++) {
                ways += choose(t, k) * choose(m - t, u - k);
            }
            return ways;
        }

        static int orders(int many) {
            int ways = 1;
            for (int i = 2; i <= many; i++) {
                ways *= i;
            }
            return ways;
        }

        static int commonMultiple(int one, int two) {
            int multiple = one;
            for (int i = 0; i < two && multiple % two != 0; i++) {
                multiple += one;
            }
            return multiple;
        }
    }
}
