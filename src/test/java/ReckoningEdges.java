/** Boundary cases of what is reckoned from the FACTS: promises 22 to 39. */
final class ReckoningEdges {
    private static final int MIN = Edge.MIN;
    private static final int MAX = Edge.MAX;
    private static final int BAD = -1000000000;
    private static final String ROOM = FactEdges.ROOM;
    /** The FIDDLES of ROOM, and ten players. */
    private static final String TEN = ROOM.replace("hearer", "player");

    private ReckoningEdges() {
    }

    static void hold() {
        coin();
        table();
        aboveSixty();
        pairs();
        off();
        steadyWays();
        kinds();
        apart();
        kindWays();
        players();
        flipWays();
        oneWay();
        small();
        knowing();
        spots();
        right();
        near();
        nearWays();
        beats();
        winner();
        best();
        coinRefused();
        tableRefused();
        steadyRefused();
        kindsRefused();
        flipsRefused();
        smallRefused();
        knowingRefused();
        spotRefused();
        rightRefused();
        nearRefused();
        beatsRefused();
        winnerRefused();
        bestRefused();
    }

    private static void blind(BlindFiddles x, int person, int... values) {
        FactEdges.blind(x, person, values);
    }

    /** So many GUESSES: old ones said old, old ones said new, new ones said old, new ones said new. */
    private static BlindFiddles guessed(int oldOld, int oldNew, int newOld, int newNew) {
        BlindFiddles x = Due.told(ROOM);
        int[] many = {oldOld, oldNew, newOld, newNew};
        for (int kind = 0; kind < 4; kind++) {
            for (int i = 0; i < many[kind]; i++) {
                x.guess(i % 2 == 0 ? 0 : 7, kind < 2 ? i % 4 : 4 + i % 4, kind % 2 == 0);
            }
        }
        return x;
    }

    private static void coin() {
        Edge edge = Edge.term("As KNOWN by n: THE COIN: of m GUESSES (players' and hearers') r are right: of all 2 "
                + "to the m rows those with r or more right.", 22, 43, 44);
        BlindFiddles none = Due.told(ROOM);
        edge.due(none, "coin(0, true)", 1);
        edge.due(none, "coin(0, false)", 1);
        long[] ways = {64, 63, 57, 42, 22, 7, 1};
        for (int r = 0; r <= 6; r++) {
            BlindFiddles x = guessed(r / 2, (6 - r) / 2, 6 - r - (6 - r) / 2, r - r / 2);
            edge.due(x, "coin(6, true)", ways[r]);
            edge.due(x, "coin(6, false)", 64);
        }
        edge.due(guessed(60, 0, 0, 0), "coin(60, true)", 1);
        edge.due(guessed(30, 0, 1, 29), "coin(60, true)", 61);
        edge.due(guessed(15, 15, 15, 15), "coin(60, true)", 635593043085854200L);
        edge.due(guessed(1, 0, 59, 0), "coin(60, true)", 1152921504606846975L);
        edge.due(guessed(0, 30, 30, 0), "coin(60, true)", 1152921504606846976L);
        edge.due(guessed(0, 30, 30, 0), "coin(60, false)", 1152921504606846976L);
        // a player's and a hearer's; a MARK is none
        BlindFiddles x = Due.told(ROOM);
        x.guess(0, 0, true);
        x.guess(7, 4, false);
        x.guess(9, 0, true);
        x.mark(0, 0, 5, 0, false);
        x.guess(6, 0, true);
        x.guess(7, 0, true);
        edge.row(x, "coin(#, false)", 0, 1, 2, 4, 8, 8, 16, 32);
        edge.row(x, "coin(#, true)", 0, 1, 1, 1, 1, 1, 1, 1);
        edge.row(x, "say(#)", 3, 0, 64, 64, 65);
        edge.row(x, "turned(#)", 3, 3, 5, 5, -1);
    }

    private static void table() {
        Edge edge = Edge.term("THE TABLE: u of them say old, t are of old FIDDLES, a both: of all ways to take u of "
                + "the m those by which a or more of the t are taken.", 23);
        long[][] rows = {{0, 0, 0, 0, 1, 1}, {1, 0, 0, 0, 1, 1}, {0, 1, 0, 0, 1, 1}, {0, 0, 1, 0, 1, 1},
                {0, 0, 0, 1, 1, 1}, {2, 0, 1, 0, 1, 1}, {4, 0, 0, 4, 1, 70}, {3, 1, 1, 3, 17, 70},
                {2, 2, 2, 2, 53, 70}, {1, 3, 3, 1, 69, 70}, {0, 4, 4, 0, 70, 70}, {0, 4, 0, 4, 1, 1},
                {4, 0, 4, 0, 1, 1}, {4, 0, 2, 4, 15, 210}, {3, 1, 3, 3, 95, 210}, {2, 2, 4, 2, 185, 210},
                {1, 3, 5, 1, 209, 210}, {60, 0, 0, 0, 1, 1}, {0, 0, 0, 60, 1, 1}, {1, 0, 0, 59, 1, 60},
                {0, 59, 1, 0, 60, 60}, {30, 0, 0, 30, 1, 118264581564861424L},
                {29, 1, 1, 29, 901, 118264581564861424L}, {20, 10, 10, 20, 1146172324586762L, 118264581564861424L},
                {15, 15, 15, 15, 71163013287905912L, 118264581564861424L},
                {0, 30, 30, 0, 118264581564861424L, 118264581564861424L}};
        for (long[] row : rows) {
            BlindFiddles x = guessed((int) row[0], (int) row[1], (int) row[2], (int) row[3]);
            long m = row[0] + row[1] + row[2] + row[3];
            edge.due(x, "count(5)", m);
            edge.due(x, "table(" + m + ", true)", row[4]);
            edge.due(x, "table(" + m + ", false)", row[5]);
        }
    }

    private static void aboveSixty() {
        Edge edge = Edge.term("(With m above 60 both -2.)", 22, 23, 43, 44);
        BlindFiddles x = Due.told(ROOM);
        x.mark(0, 0, 1, 0, true);
        for (int i = 0; i < 61; i++) {
            x.guess(i % 2 == 0 ? 0 : 7, 0, true);
        }
        x.mark(0, 0, 1, 0, true);
        x.annul(1);
        x.guess(0, 0, true);
        // 59, 60 and 61 of them, a MARK more, a VOID of one, and one more again
        edge.row(x, "coin(#, true)", 60, 1, 1, -2, -2, 1, -2, -1);
        edge.row(x, "coin(#, false)", 60, 1L << 59, 1L << 60, -2, -2, 1L << 60, -2, -1);
        edge.row(x, "table(#, true)", 60, 1, 1, -2, -2, 1, -2, -1);
        edge.row(x, "table(#, false)", 60, 1, 1, -2, -2, 1, -2, -1);
        edge.row(x, "say(#)", 60, 1, 1, 0, 0, 1, 0, -1);
        edge.row(x, "turned(#)", 0, 5, 5, 5, 5, 5, 5, 61, 61);
        edge.row(x, "turned(#)", 61, 61, 63, 63, 64, -1);
        edge.row(x, "guesses(#, 0)", 60, 59, 60, 61, 61, 60, 61);
    }

    /** Of a player, FIDDLE by FIDDLE: all as, then all bs. */
    private static BlindFiddles paired(int... asAndBs) {
        BlindFiddles x = Due.told(ROOM);
        int many = asAndBs.length / 2;
        for (int i = 0; i < asAndBs.length; i++) {
            x.mark(0, i % many, asAndBs[i], 0, false);
        }
        return x;
    }

    private static void pairs() {
        Edge edge = Edge.term("STEADY: PAIRS: players and FIDDLES (by the player, then the FIDDLE) with two blind "
                + "MARKS or more: the last two, b the later one; the first 7 count.", 24, 25, 43, 44);
        BlindFiddles x = Due.told(ROOM);
        int[][] those = {{1, 6, 100}, {0, 7, 64}, {1, 5, 32}, {1, 4, 16}, {1, 3, 8}, {1, 2, 4}, {1, 1, 2}, {1, 0, 1}};
        for (int[] one : those) {
            x.mark(one[0], one[1], 0, 0, false);
            x.mark(one[0], one[1], one[2], 0, false);
        }
        edge.row(x, "steady(#, 0)", 0, 0, 0, 1, 1, 2, 2, 3, 3, 4, 4, 5, 5, 6, 6, 7, 7, 7);
        // the eighth, that of player 1 and FIDDLE 6, came first, but counts no more
        edge.row(x, "steady(#, 1)", 13, 224, 226, 226, 127);
        edge.row(x, "steadyWays(#)", 12, 720, 720, 5040, 5040, 5040);
        BlindFiddles y = Due.told(ROOM);
        y.mark(0, 0, 10, 0, false);
        y.mark(0, 0, 90, 0, true);
        y.mark(0, 1, 50, 0, false);
        y.mark(7, 0, 1, 0, false);
        y.mark(7, 0, 2, 0, false);
        y.mark(0, 2, 1, 0, true);
        y.mark(0, 2, 1, 0, true);
        y.mark(1, 0, 70, 0, false);
        y.mark(0, 0, 30, 0, false);
        y.mark(0, 0, 35, 0, false);
        y.mark(0, 0, 31, 0, false);
        // one blind MARK, seen ones and hearers' make none; of three and four the last two
        edge.row(y, "steady(#, 0)", 0, 0, 0, 0, 0, 0, 0, 0, 0, 0, 1, 1, 1);
        edge.row(y, "steady(#, 1)", 8, 0, 20, 5, 4);
        edge.row(y, "steadyWays(#)", 8, 1, 1, 1, 1);
        // seven as they are told again: 1 way of 5040; and an eighth that would make two alike
        BlindFiddles z = paired(0, 10, 20, 30, 40, 50, 60, 70, 0, 10, 20, 30, 40, 50, 60, 60);
        edge.row(z, "steady(#, 0)", 8, 0, 1, 2, 3, 4, 5, 6, 7, 7);
        edge.row(z, "steadyWays(#)", 8, 1, 1, 1, 1, 1, 1, 1, 1, 1);
        edge.row(z, "say(#)", 8, 128, 128, 128, 128, 144, 144, 144, 144, 16);
        edge.row(z, "turned(#)", 8, 11, 11, 11, 11, 15, 15, 15, 15, -1);
    }

    private static void off() {
        Edge edge = Edge.term("OFF: the sum of what a and b are apart.", 24, 25);
        edge.due(paired(10, 30), "steady(2, 1)", 20);
        edge.due(paired(30, 10), "steady(2, 1)", 20);
        edge.due(paired(30, 30), "steady(2, 1)", 0);
        edge.due(paired(0, 100), "steady(2, 1)", 100);
        edge.due(paired(10, 30, 30, 10), "steady(4, 1)", 40);
        edge.due(paired(10, 30, 30, 10), "steadyWays(4)", 2);
        edge.due(paired(0, 0, 0, 0, 0, 0, 0, 100, 100, 100, 100, 100, 100, 100), "steady(14, 1)", 700);
        edge.due(paired(0, 0, 0, 0, 0, 0, 0, 100, 100, 100, 100, 100, 100, 100), "steadyWays(14)", 5040);
        edge.due(Due.told(ROOM), "steady(0, 1)", 0);
    }

    private static void steadyWays() {
        Edge edge = Edge.term("Of all ways to give the bs to the as (one to each) those with a sum that is not above "
                + "OFF.", 25, 43, 44);
        edge.due(Due.told(ROOM), "steadyWays(0)", 1);
        edge.due(paired(10, 20), "steadyWays(2)", 1);
        edge.due(paired(10, 20, 20, 10), "steadyWays(4)", 2);
        edge.due(paired(10, 20, 10, 20), "steadyWays(4)", 1);
        // a sum that is OFF just is not above it
        edge.due(paired(10, 10, 5, 20), "steadyWays(4)", 2);
        edge.due(paired(0, 100, 50, 50), "steadyWays(4)", 2);
        edge.due(paired(0, 0, 0, 1, 2, 3), "steadyWays(6)", 6);
        // 60 as it is; 80, 40, 20, 80, 40 else
        edge.due(paired(0, 10, 40, 30, 0, 20), "steadyWays(6)", 4);
        // 1 of 24 is rare, 2 of 24 not; 6 of 120 just, 12 of 120 not
        edge.due(paired(10, 20, 30, 40, 10, 20, 30, 40), "say(8)", 16 + 64);
        edge.due(paired(10, 20, 30, 40, 10, 20, 30, 40), "turned(7)", 7);
        edge.due(paired(10, 10, 30, 40, 10, 10, 30, 40), "steadyWays(8)", 2);
        edge.due(paired(10, 10, 30, 40, 10, 10, 30, 40), "say(8)", 64);
        edge.due(paired(10, 10, 30, 40, 10, 10, 30, 40), "turned(7)", -1);
        edge.due(paired(10, 10, 10, 50, 90, 10, 10, 10, 50, 90), "steadyWays(10)", 6);
        edge.due(paired(10, 10, 10, 50, 90, 10, 10, 10, 50, 90), "say(10)", 16 + 128);
        edge.due(paired(10, 10, 10, 50, 50, 10, 10, 10, 50, 50), "steadyWays(10)", 12);
        edge.due(paired(10, 10, 10, 50, 50, 10, 10, 10, 50, 50), "say(10)", 0);
        // 1 of 6 is not rare
        edge.due(paired(10, 20, 30, 10, 20, 30), "say(6)", 64);
    }

    private static void kinds() {
        Edge edge = Edge.term("KINDS BY FIDDLES: of FIDDLES with a MEAN o are old, w new; with L the least number "
                + "that all their N go into: V = S * L / N.", 26, 27, 30, 43);
        BlindFiddles none = Due.told(ROOM);
        edge.row(none, "kinds(0, #)", 0, 0, 0, 1, 0);
        // seen ones and hearers' give no MEAN, and no N
        BlindFiddles x = Due.told(ROOM);
        x.mark(0, 0, 10, 0, true);
        x.mark(7, 4, 10, 0, false);
        x.mark(8, 4, 10, 0, false);
        edge.row(x, "kinds(3, #)", 0, 0, 0, 1, 0);
        x.mark(0, 4, 10, 0, false);
        x.mark(1, 0, 10, 0, false);
        x.mark(2, 0, 10, 0, false);
        x.mark(3, 0, 10, 0, false);
        edge.row(x, "kinds(7, #)", 0, 1, 1, 3, 0);
        // N of a and e: 1 and 1, 2 and 1, 3 and 1, 3 and 2, 3 and 3, 4 and 3, 4 and 4
        BlindFiddles y = Due.told(ROOM);
        int[][] marks = {{0, 0}, {0, 4}, {1, 0}, {2, 0}, {1, 4}, {2, 4}, {3, 0}, {3, 4}};
        for (int[] mark : marks) {
            y.mark(mark[0], mark[1], 50, 0, false);
        }
        edge.row(y, "kinds(#, 2)", 0, 1, 1, 1, 2, 3, 6, 3, 12, 4);
        edge.row(y, "kinds(#, 3)", 0, 0, 0, 0, 0, 0, 0, 0, 0, 0);
        // by V, not by S: 15 of 2 against 20, 15, 14
        int[] news = {20, 15, 14};
        int[] aparts = {-10, 0, 2};
        int[] ways = {2, 2, 1};
        for (int i = 0; i < 3; i++) {
            BlindFiddles z = Due.told(ROOM);
            z.mark(0, 0, 10, 0, false);
            z.mark(1, 0, 20, 0, false);
            z.mark(0, 4, news[i], 0, false);
            edge.row(z, "kinds(3, #)", 0, 1, 1, 2, aparts[i]);
            edge.due(z, "kindWays(3, true)", ways[i]);
            edge.due(z, "kindWays(3, false)", 2);
        }
        // N of 5, 7, 8 and 9
        BlindFiddles v = Due.told(TEN);
        int[] fiddles = {0, 1, 4, 5};
        int[] manys = {5, 7, 8, 9};
        for (int i = 0; i < 4; i++) {
            for (int player = 0; player < manys[i]; player++) {
                v.mark(player, fiddles[i], i < 2 ? 100 : 0, 0, false);
            }
        }
        edge.row(v, "kinds(29, #)", 0, 2, 2, 2520, 2 * 2 * 252000);
        edge.due(v, "kindWays(29, true)", 1);
        edge.due(v, "kindWays(29, false)", 6);
        // old ones 15 (of two), 30, 40; 50, 45, 41: x more for each MARK
        BlindFiddles u = Due.told(ROOM);
        blind(u, 0, 10, 30, 40, -1, 50, 45, 41);
        u.mark(1, 0, 20, 0, false);
        edge.due(u, "small(7)", 36);
        // 3 new ones below 3 old ones by V, though not by S: rare
        BlindFiddles s = Due.told(ROOM);
        blind(s, 0, 60, 61, 62, -1, 50, 40, 30);
        s.mark(1, 4, 50, 0, false);
        s.mark(2, 4, 50, 0, false);
        edge.due(s, "kinds(8, 3)", 3 * 3 * (60 + 61 + 62 - 50 - 40 - 30));
        edge.due(s, "kindWays(8, true)", 1);
        edge.due(s, "say(8)", 2 + 64);
        BlindFiddles r = Due.told(ROOM);
        blind(r, 0, 60, 61, 62, -1, 50, 40, 30);
        r.mark(1, 4, 80, 0, false);
        // 65 by two is above 60, though not with player 0
        edge.due(r, "kindWays(7, true)", 4);
        edge.due(r, "say(7)", 64);
    }

    private static void apart() {
        Edge edge = Edge.term("D = w times the sum of V of old ones, less o times that of new ones.", 26);
        BlindFiddles x = Due.told(ROOM);
        blind(x, 0, 10, 20, 30, -1, 50);
        edge.row(x, "kinds(#, 3)", 0, 0, 0, 0, 0, 60 - 3 * 50);
        BlindFiddles y = Due.told(ROOM);
        blind(y, 0, -1, -1, -1, -1, 10, 20, 30);
        y.mark(0, 0, 50, 0, false);
        edge.row(y, "kinds(#, 3)", 0, 0, 0, 0, 0, 3 * 50 - 60);
        BlindFiddles z = Due.told(ROOM);
        blind(z, 0, 100, 100, 100, 100, 0, 0, 0, 0);
        edge.row(z, "kinds(8, #)", 0, 4, 4, 1, 1600);
        BlindFiddles v = Due.told(ROOM);
        blind(v, 0, 0, 0, 0, 0, 100, 100, 100, 100);
        edge.row(v, "kinds(8, #)", 0, 4, 4, 1, -1600);
    }

    private static void isKinds(Edge edge, int[] values, long ways, long all, long say) {
        BlindFiddles x = Due.told(ROOM);
        blind(x, 0, values);
        int n = x.count(5);
        edge.due(x, "kindWays(" + n + ", true)", ways);
        edge.due(x, "kindWays(" + n + ", false)", all);
        edge.due(x, "say(" + n + ")", say);
    }

    private static void kindWays() {
        Edge edge = Edge.term("Of all ways to call o of these FIDDLES old those with a D not below it.", 27, 30, 43);
        // a D alike to it is not below it
        isKinds(edge, new int[] {10, -1, -1, -1, 10, 20}, 3, 3, 128);
        isKinds(edge, new int[] {20, -1, -1, -1, 10, 20}, 2, 3, 0);
        isKinds(edge, new int[] {21, -1, -1, -1, 10, 20}, 1, 3, 64);
        isKinds(edge, new int[] {0, -1, -1, -1, 0}, 2, 2, 0);
        isKinds(edge, new int[] {10, 20, 30, -1, 40, 50, 25}, 19, 20, 128);
        isKinds(edge, new int[] {5, 5, 5, 5, 5, 5, 5, 5}, 70, 70, 0);
        // 1 of 20 is rare, 2 of 20 not; 1 of 15 not; 1 of 35; 3 of 70, not 4 of 70
        isKinds(edge, new int[] {99, 98, 97, -1, 96, 95, 94}, 1, 20, 2 + 64);
        isKinds(edge, new int[] {99, 98, 96, -1, 96, 95, 94}, 2, 20, 64);
        isKinds(edge, new int[] {99, 98, -1, -1, 96, 95, 94, 93}, 1, 15, 64);
        isKinds(edge, new int[] {99, 98, 97, -1, 96, 95, 94, 93}, 1, 35, 2 + 64);
        isKinds(edge, new int[] {99, 98, 96, -1, 96, 95, 94, 93}, 2, 35, 64);
        isKinds(edge, new int[] {100, 90, 80, 5, 7, 6, 4, 3}, 3, 70, 2 + 64);
        isKinds(edge, new int[] {100, 90, 80, 5, 7, 6, 5, 3}, 4, 70, 64);
        // 9 more: all old ones above the new ones; 7 more: alike to the greatest
        isSmall(edge, 9, 100, 90, 80, -1, 88, 70, 60);
        isSmall(edge, 1, 100, 90, 80, 5, 7, 6, 5, 3);
    }

    /** Each player's MARKS on an old and on a new FIDDLE are so much apart. */
    private static BlindFiddles apartBy(int... ds) {
        BlindFiddles x = Due.told(TEN);
        for (int player = 0; player < ds.length; player++) {
            x.mark(player, 0, 50 + ds[player], 0, false);
            x.mark(player, 4, 50, 0, false);
        }
        return x;
    }

    private static void players() {
        Edge edge = Edge.term("BY PLAYERS: each player with LAST blind MARKS of old and of new ones: d = the sum of "
                + "old ones' times how many new ones, less the sum of new ones' times how many old ones.", 28, 29, 43);
        BlindFiddles x = Due.told(ROOM);
        // 30 times 1 less 5 times 2; 7 times 2 less 17; old ones alone; new ones alone; a hearer; a seen one
        blind(x, 0, 10, 20, -1, -1, 5);
        blind(x, 1, 7, -1, -1, -1, -1, 8, 9);
        blind(x, 2, 90, 90);
        blind(x, 4, -1, -1, -1, -1, 90, 90);
        blind(x, 7, 100, 0, 0, 0, 0, 0, 0, 0);
        x.mark(2, 4, 3, 0, true);
        x.mark(4, 0, 3, 0, true);
        int n = x.count(5);
        edge.row(x, "flips(" + n + ", #)", 0, 2, 20 - 3);
        edge.due(x, "flipWays(" + n + ")", 2);
        edge.row(x, "flips(#, 0)", 0, 0, 0, 0, 1, 1, 2, 2);
        edge.row(x, "flips(#, 1)", 3, 20, 20, 20 + 7 - 8, 20 - 3);
        // 0 is a MARK
        x.mark(2, 4, 0, 0, false);
        edge.row(x, "flips(" + (n + 1) + ", #)", 0, 3, 20 - 3 + 180);
        BlindFiddles y = Due.told(ROOM);
        blind(y, 0, 100, 100, 100, 100, 0, 0, 0, 0);
        edge.row(y, "flips(8, #)", 0, 1, 1600);
        BlindFiddles z = apartBy(1, 2, 3, 4, 5, 6, 7, 8, 9, 10);
        edge.row(z, "flips(20, #)", 0, 10, 55);
        edge.due(z, "flipWays(20)", 1);
        edge.due(z, "say(20)", 4 + 64);
    }

    private static void flipWays() {
        Edge edge = Edge.term("Of all ways to turn the sign of each d or not those with a sum not below the sum as "
                + "it is.", 29, 43);
        int[][] ds = {{}, {5}, {-5}, {0}, {5, -5}, {3, -1, -2}, {1, 1, 1, 1, 1, 1, 1, 1, 1, 1},
                {0, 0, 0, 0, 0, 0, 0, 0, 0, 0}, {-1, -1, -1, -1, -1, -1, -1, -1, -1, -1}, {50, -50, 50, -50},
                {10, 20, 30}};
        long[] ways = {1, 1, 2, 2, 3, 5, 1, 1024, 1024, 11, 1};
        for (int i = 0; i < ds.length; i++) {
            edge.due(apartBy(ds[i]), "flipWays(" + 2 * ds[i].length + ")", ways[i]);
        }
        // 1 of 16 is not rare, 1 of 32 is; 2 of 32 not; 3 of 64 is, 4 of 64 not
        edge.due(apartBy(5, 5, 5, 5), "say(8)", 64);
        edge.due(apartBy(5, 5, 5, 5, 5), "say(10)", 4 + 64);
        edge.due(apartBy(5, 5, 5, 5, 0), "flipWays(10)", 2);
        edge.due(apartBy(5, 5, 5, 5, 0), "say(10)", 64);
        edge.due(apartBy(5, 5, 5, 5, 1, -1), "flipWays(12)", 3);
        edge.due(apartBy(5, 5, 5, 5, 1, -1), "say(12)", 4 + 64);
        edge.due(apartBy(5, 5, 5, 5, 0, 0), "flipWays(12)", 4);
        edge.due(apartBy(5, 5, 5, 5, 0, 0), "say(12)", 64);
        // 25 of 512 and 51 of 1024 are rare, 26 and 52 not
        edge.due(apartBy(50, 50, 50, -2, 1, -4, -4, 9, 5), "flipWays(18)", 25);
        edge.due(apartBy(50, 50, 50, -2, 1, -4, -4, 9, 5), "say(18)", 4 + 64);
        edge.due(apartBy(50, 50, 50, 50, 4, 1, -9, -9, 0), "flipWays(18)", 26);
        edge.due(apartBy(50, 50, 50, 50, 4, 1, -9, -9, 0), "say(18)", 64);
        edge.due(apartBy(50, 50, 50, 50, 2, 1, -1, 2, -8, -7), "flipWays(20)", 51);
        edge.due(apartBy(50, 50, 50, 50, 2, 1, -1, 2, -8, -7), "say(20)", 4 + 64);
        edge.due(apartBy(50, 50, 50, 50, -9, -8, -1, -8, 7, 6), "flipWays(20)", 52);
        edge.due(apartBy(50, 50, 50, 50, -9, -8, -1, -8, 7, 6), "say(20)", 64);
    }

    private static void oneWay() {
        Edge edge = Edge.term("(Without old or without new ones, without such players: 1 way.)", 27, 29, 30, 43, 44);
        int[][] those = {{}, {10, 20, 30, 40}, {-1, -1, -1, -1, 10, 20, 30, 40}, {50}, {-1, -1, -1, -1, 50}};
        for (int[] values : those) {
            BlindFiddles x = Due.told(ROOM);
            blind(x, 0, values);
            blind(x, 7, 5, 5, 5, 5, 5, 5, 5, 5);
            int n = x.count(5);
            edge.due(x, "kindWays(" + n + ", true)", 1);
            edge.due(x, "kindWays(" + n + ", false)", 1);
            edge.due(x, "flipWays(" + n + ")", 1);
            edge.row(x, "flips(" + n + ", #)", 0, 0, 0);
            edge.due(x, "small(" + n + ")", -2);
            edge.due(x, "say(" + n + ")", values.length == 0 ? 0 : values[0] < 0 ? 128 : 64);
            edge.due(x, "turned(8)", -1);
        }
        // old ones of one player and new ones of another: both kinds, but no such player
        BlindFiddles y = Due.told(ROOM);
        blind(y, 0, 10, 20);
        blind(y, 1, -1, -1, -1, -1, 5, 6);
        edge.due(y, "flipWays(4)", 1);
        edge.due(y, "kindWays(4, false)", 6);
        edge.due(y, "say(4)", 0);
    }

    private static void isSmall(Edge edge, int want, int... values) {
        BlindFiddles x = Due.told(ROOM);
        blind(x, 0, values);
        edge.due(x, "small(" + x.count(5) + ")", want);
    }

    private static void small() {
        Edge edge = Edge.term("HOW SMALL: the least x (0 .. 100) so that, if all LAST blind MARKS of players on old "
                + "FIDDLES were x more, 20 times KINDS BY FIDDLES' ways were not above all.", 30);
        isSmall(edge, -2);
        isSmall(edge, 0, 99, 98, 97, -1, 96, 95, 94);
        isSmall(edge, 1, 99, 98, 96, -1, 96, 95, 94);
        isSmall(edge, 2, 99, 98, 95, -1, 96, 95, 94);
        isSmall(edge, 41, 10, 20, 30, -1, 40, 50, 25);
        // 100, and one more
        isSmall(edge, 100, 1, 50, 60, -1, 100, 90, 80);
        isSmall(edge, -2, 0, 50, 60, -1, 100, 90, 80);
        // all is less than 20
        isSmall(edge, -2, 99, 98, -1, -1, 1, 2, 3, 4);
        isSmall(edge, -2, 99, 98, 97, -1, 1, 2);
        isSmall(edge, -2, 99, 98, 97, 96, 1);
        isSmall(edge, -2, 99, 98, 97, 96);
        // 4 and 2 are 15, 3 and 4 are 35 (1 way), 4 and 4 are 70 (3 ways)
        isSmall(edge, -2, 99, 98, 97, 96, 1, 2);
        isSmall(edge, 97, 99, 98, 0, -1, 96, 95, 94, 93);
        isSmall(edge, 95, 99, 98, 97, 0, 96, 95, 94, 0);
        // each MARK is more: 15 by two, 30 and 40 above 50
        BlindFiddles y = Due.told(ROOM);
        blind(y, 0, 10, 30, 40, -1, 50, 45, 41);
        y.mark(1, 0, 20, 0, false);
        edge.due(y, "small(7)", 36);
        // what is not LAST, not blind, of a hearer or on a new one is no matter
        BlindFiddles x = Due.told(ROOM);
        x.mark(0, 0, 99, 0, false);
        blind(x, 0, 10, 20, 30, -1, 40, 50, 25);
        x.mark(0, 0, 100, 0, true);
        x.mark(7, 0, 100, 0, false);
        edge.row(x, "small(#)", 6, -2, 41, 41, 41);
    }

    private static void knowing() {
        Edge edge = Edge.term("KNOWING: PAIRS of players and FIDDLES with a LAST seen and a LAST blind MARK, the "
                + "first 12: seen less blind; of all ways to turn signs those with a sum not below the sum as it is.",
                31, 32, 43, 44);
        BlindFiddles x = Due.told(ROOM);
        x.mark(0, 0, 10, 0, false);
        x.mark(0, 0, 30, 0, true);
        x.mark(0, 4, 50, 0, true);
        x.mark(0, 4, 90, 0, false);
        x.mark(1, 1, 5, 0, true);
        x.mark(2, 1, 5, 0, false);
        x.mark(7, 0, 0, 0, false);
        x.mark(7, 0, 100, 0, true);
        x.mark(3, 5, 0, 0, true);
        x.mark(3, 5, 0, 0, false);
        edge.row(x, "knowing(#, 0)", 0, 0, 0, 1, 1, 2, 2, 2, 2, 2, 2, 3);
        edge.row(x, "knowing(#, 1)", 0, 0, 0, 20, 20, 20);
        edge.row(x, "knowing(#, 2)", 2, 0, 0, -40, -40);
        edge.row(x, "knowingWays(#)", 0, 1, 1, 1, 1, 3);
        edge.due(x, "knowingWays(10)", 6);
        // the 13th, of the last player, came first; by the player, then the FIDDLE
        BlindFiddles y = Due.told(ROOM);
        y.mark(2, 0, 0, 0, false);
        y.mark(2, 0, 100, 0, true);
        for (int pair = 11; pair >= 0; pair--) {
            y.mark(pair / 6, pair % 6, 50, 0, false);
            y.mark(pair / 6, pair % 6, pair < 11 ? 51 : 60, 0, true);
        }
        edge.row(y, "knowing(2, #)", 0, 1, 100, 0);
        edge.row(y, "knowing(24, #)", 0, 12, 107, 13);
        edge.row(y, "knowing(26, #)", 0, 12, 8, 13);
        edge.due(y, "knowingWays(26)", 1);
        y.mark(0, 0, 51, 0, false);
        y.mark(0, 1, 51, 0, false);
        edge.row(y, "knowingWays(#)", 26, 1, 2, 4);
        // 1 of 16 is not rare, 1 of 32 is; 2 of 32 not; 3 of 64 is, 4 of 64 not
        int[][] mores = {{5, 5, 5, 5}, {5, 5, 5, 5, 5}, {5, 5, 5, 5, 0}, {5, 5, 5, 5, 1, -1}, {5, 5, 5, 5, 0, 0}};
        long[] ways = {1, 1, 2, 3, 4};
        long[] says = {0, 8, 0, 8, 0};
        for (int i = 0; i < mores.length; i++) {
            BlindFiddles z = Due.told(ROOM);
            for (int fiddle = 0; fiddle < mores[i].length; fiddle++) {
                z.mark(0, fiddle, 50, 0, false);
                z.mark(0, fiddle, 50 + mores[i][fiddle], 0, true);
            }
            int n = z.count(5);
            edge.due(z, "knowingWays(" + n + ")", ways[i]);
            edge.due(z, "say(" + n + ")", says[i]);
            edge.due(z, "turned(" + (n - 1) + ")", i == 1 ? n - 1 : -1);
        }
    }

    private static void spots() {
        Edge edge = Edge.term("SPOTS: of blind MARKS of players at a spot: the sum, how many.", 33, 34);
        BlindFiddles x = Due.told(ROOM);
        x.mark(0, 0, 10, 0, false);
        x.mark(0, 0, 20, 0, false);
        x.mark(1, 5, 100, 9, false);
        x.mark(0, 0, 40, 0, true);
        x.mark(7, 0, 40, 0, false);
        x.mark(6, 7, 0, 9, false);
        // all of them, not only the LAST; neither seen nor a hearer's
        edge.row(x, "spot(#, 0, 0)", 0, 0, 10, 30, 30, 30, 30, 30);
        edge.row(x, "spot(#, 0, 1)", 0, 0, 1, 2, 2, 2, 2, 2);
        edge.row(x, "spot(#, 9, 0)", 2, 0, 100, 100, 100, 100);
        edge.row(x, "spot(#, 9, 1)", 2, 0, 1, 1, 1, 2);
        edge.row(x, "spot(6, #, 1)", 0, 2, 0, 0, 0, 0, 0, 0, 0, 0, 2);
        edge.row(x, "right(#, 5)", 3, 0, 0, 0, 5000);
        edge.due(x, "right(6, 0)", 0);
        BlindFiddles y = Due.told(ROOM);
        for (int i = 0; i < 80; i++) {
            y.mark(i % 7, i % 8, 100, 5, false);
        }
        edge.row(y, "spot(80, 5, #)", 0, 8000, 80);
    }

    private static void right() {
        Edge edge = Edge.term("PUT RIGHT: of all blind MARKS of players on a FIDDLE the sum of 100 times the MARK, "
                + "less 100 times the spot's sum by how many (rounded towards 0).", 34);
        BlindFiddles x = Due.told(ROOM);
        x.mark(0, 0, 33, 0, false);
        x.mark(1, 1, 33, 0, false);
        x.mark(2, 2, 34, 0, false);
        // 10000 by 3 is 3333
        edge.row(x, "right(3, #)", 0, -33, -33, 67, 0);
        x.mark(0, 0, 50, 9, false);
        x.mark(0, 1, 49, 9, false);
        x.mark(0, 1, 100, 9, true);
        x.mark(7, 1, 100, 9, false);
        // spot by spot, each MARK by itself: 9900 by 2 is 4950
        edge.row(x, "right(7, #)", 0, -33 + 50, -33 - 50, 67, 0);
        // two MARKS of one FIDDLE at one spot: 20000 by 6 is 3333, twice
        x.mark(0, 2, 0, 0, false);
        x.mark(0, 2, 100, 0, false);
        x.mark(0, 3, 0, 0, false);
        edge.row(x, "right(10, #)", 0, -33 + 50, -33 - 50, 67 - 3333 + 6667, -3333);
        BlindFiddles y = Due.told(ROOM);
        y.mark(0, 0, 100, 4, false);
        for (int i = 1; i < 80; i++) {
            y.mark(1, 1, 0, 4, false);
        }
        edge.row(y, "right(80, #)", 0, 10000 - 125, -79 * 125);
    }

    private static void near() {
        Edge edge = Edge.term("NEAR AND FAR: FIDDLES with a MEAN and a hearers' MEAN, the first 6: of all two of "
                + "them: ALIKE if both MEANS part them the same way, UNLIKE if the other way round (else neither).",
                35, 36, 43);
        BlindFiddles x = Due.told(ROOM);
        // players: a 10, b (20 + 31) / 2, c 25, e 10; hearers: a 5, b 6, c 7, d 8, then e 5
        blind(x, 0, 10, 20, 25, -1, 10);
        blind(x, 1, -1, 31);
        blind(x, 7, 5, 6, 7, 8);
        edge.row(x, "near(9, #)", 0, 3, 2, 1);
        x.mark(8, 4, 5, 0, false);
        // e and a are alike by both: neither
        edge.row(x, "near(10, #)", 0, 4, 4, 1);
        // a tie on one side: neither
        BlindFiddles y = Due.told(ROOM);
        blind(y, 0, 10, 10, 20);
        blind(y, 7, 5, 6, 6);
        edge.row(y, "near(6, #)", 0, 3, 1, 0);
        // by MEANS, not by sums: 25 and 24, 10 and 11
        BlindFiddles z = Due.told(ROOM);
        blind(z, 0, 25, 20);
        blind(z, 1, -1, 28);
        blind(z, 7, 10, 11);
        blind(z, 8, 10);
        edge.row(z, "near(6, #)", 0, 2, 0, 1);
        edge.due(z, "nearWays(6)", 2);
        // the first 6 of 8, and seen ones count for none
        BlindFiddles v = Due.told(ROOM);
        v.mark(7, 6, 99, 0, false);
        v.mark(0, 6, 0, 0, false);
        v.mark(7, 7, 98, 0, false);
        v.mark(0, 7, 1, 0, false);
        edge.row(v, "near(4, #)", 0, 2, 0, 1);
        v.mark(0, 0, 5, 0, true);
        v.mark(7, 0, 5, 0, true);
        blind(v, 0, 10, 20, 30, 40, 50, 60);
        edge.row(v, "near(12, #)", 0, 2, 0, 1);
        blind(v, 7, 10, 20, 30, 40, 50, 60);
        edge.row(v, "near(#, 0)", 13, 3, 4, 5, 6, 6, 6);
        edge.row(v, "near(18, #)", 0, 6, 15, 0);
        edge.due(v, "nearWays(18)", 1);
        edge.due(v, "say(18)", 32 + 128);
        // four FIDDLES: one two of them UNLIKE
        BlindFiddles u = Due.told(ROOM);
        blind(u, 0, 10, 20, 30, 40);
        blind(u, 7, 10, 20, 40, 30);
        edge.row(u, "near(8, #)", 0, 4, 5, 1);
        edge.due(u, "say(8)", 64);
    }

    private static BlindFiddles nearAndFar(int[] players, int[] hearers) {
        BlindFiddles x = Due.told(ROOM);
        blind(x, 0, players);
        blind(x, 7, hearers);
        return x;
    }

    private static void nearWays() {
        Edge edge = Edge.term("Of all ways to give the hearers' MEANS to these FIDDLES those with ALIKE less UNLIKE "
                + "not below what it is.", 36, 43);
        edge.due(Due.told(ROOM), "nearWays(0)", 1);
        edge.due(nearAndFar(new int[] {5}, new int[] {5}), "nearWays(2)", 1);
        edge.due(nearAndFar(new int[] {5, 6}, new int[] {5, 6}), "nearWays(4)", 1);
        edge.due(nearAndFar(new int[] {5, 6}, new int[] {6, 5}), "nearWays(4)", 2);
        edge.due(nearAndFar(new int[] {5, 6}, new int[] {6, 6}), "nearWays(4)", 2);
        edge.due(nearAndFar(new int[] {5, 5}, new int[] {5, 6}), "nearWays(4)", 2);
        // by how many are the other way round: 1 with none, 2 with one, 2 with two, 1 with three
        edge.due(nearAndFar(new int[] {1, 2, 3}, new int[] {1, 2, 3}), "nearWays(6)", 1);
        edge.due(nearAndFar(new int[] {1, 2, 3}, new int[] {1, 3, 2}), "nearWays(6)", 3);
        edge.due(nearAndFar(new int[] {1, 2, 3}, new int[] {2, 3, 1}), "nearWays(6)", 5);
        edge.due(nearAndFar(new int[] {1, 2, 3}, new int[] {3, 2, 1}), "nearWays(6)", 6);
        edge.due(nearAndFar(new int[] {1, 1, 2}, new int[] {5, 6, 5}), "nearWays(6)", 6);
        edge.due(nearAndFar(new int[] {1, 1, 2}, new int[] {5, 5, 6}), "nearWays(6)", 2);
        edge.due(nearAndFar(new int[] {1, 2, 3, 4, 5, 6}, new int[] {6, 5, 4, 3, 2, 1}), "nearWays(12)", 720);
        // what is less by one is below it
        edge.due(nearAndFar(new int[] {1, 1, 2, 3}, new int[] {1, 2, 3, 2}), "nearWays(8)", 8);
        edge.due(nearAndFar(new int[] {1, 1, 2, 3}, new int[] {2, 2, 3, 1}), "nearWays(8)", 16);
        // 1 of 24 is rare, 2 of 24 not; 6 of 120 just, 14 of 120 not
        edge.due(nearAndFar(new int[] {1, 2, 3, 4}, new int[] {1, 2, 3, 4}), "say(8)", 32 + 64);
        edge.due(nearAndFar(new int[] {1, 2, 3, 4}, new int[] {1, 2, 3, 3}), "nearWays(8)", 2);
        edge.due(nearAndFar(new int[] {1, 2, 3, 4}, new int[] {1, 2, 3, 3}), "say(8)", 64);
        edge.due(nearAndFar(new int[] {1, 2, 3, 4, 5}, new int[] {1, 2, 3, 3, 3}), "nearWays(10)", 6);
        edge.due(nearAndFar(new int[] {1, 2, 3, 4, 5}, new int[] {1, 2, 3, 3, 3}), "say(10)", 32 + 128);
        edge.due(nearAndFar(new int[] {1, 2, 3, 4, 5}, new int[] {2, 1, 3, 5, 4}), "nearWays(10)", 14);
        edge.due(nearAndFar(new int[] {1, 2, 3, 4, 5}, new int[] {2, 1, 3, 5, 4}), "say(10)", 128);
        edge.due(nearAndFar(new int[] {1, 2, 3}, new int[] {1, 2, 3}), "say(6)", 64);
    }

    private static void beats() {
        Edge edge = Edge.term("BEATS: of players with LAST blind MARKS of two FIDDLES how many have the one above "
                + "the other.", 37, 38, 43);
        BlindFiddles x = Due.told(ROOM);
        blind(x, 0, 10, 20, 30);
        blind(x, 1, 20, 20, 10);
        blind(x, 2, 30, -1, 40);
        blind(x, 3, -1, 0, 0);
        blind(x, 7, 0, 100, 100);
        x.mark(4, 0, 90, 0, true);
        x.mark(4, 1, 80, 0, true);
        int n = x.count(5);
        // alike is not above; without the other it is not; neither a hearer's nor seen ones
        edge.row(x, "beats(" + n + ", 0, #)", 0, 0, 0, 1, 0);
        edge.row(x, "beats(" + n + ", 1, #)", 0, 1, 0, 1, 0);
        edge.row(x, "beats(" + n + ", 2, #)", 0, 2, 1, 0, 0);
        edge.row(x, "beats(" + n + ", 5, #)", 0, 0, 0, 0, 0);
        edge.due(x, "beats(0, 0, 1)", 0);
        edge.due(x, "winner(" + n + ")", -2);
        edge.due(x, "say(" + n + ")", 0);
        // the LAST: b and c one each; then b by two
        x.mark(3, 1, 1, 0, false);
        edge.due(x, "beats(" + (n + 1) + ", 1, 2)", 2);
        edge.due(x, "winner(" + (n + 1) + ")", 1);
        edge.due(x, "say(" + (n + 1) + ")", 64);
        BlindFiddles y = Due.told(TEN);
        for (int player = 0; player < 10; player++) {
            blind(y, player, 1, -1, -1, -1, 0);
        }
        edge.due(y, "beats(20, 0, 4)", 10);
        edge.due(y, "beats(20, 4, 0)", 0);
    }

    private static void winner() {
        Edge edge = Edge.term("THE WINNER: a FIDDLE with a MEAN that BEATS each other such FIDDLE with more players "
                + "than that one it.", 38, 43, 44);
        BlindFiddles x = Due.told(ROOM);
        x.mark(7, 0, 90, 0, false);
        x.mark(0, 0, 90, 0, true);
        x.mark(0, 5, 0, 0, false);
        x.mark(1, 3, 100, 0, false);
        x.mark(0, 3, 1, 0, false);
        x.mark(1, 5, 100, 0, false);
        x.mark(2, 5, 100, 0, false);
        x.mark(2, 3, 1, 0, false);
        // none with a MEAN; alone; no player has both; one to none; one alike; one to one
        edge.row(x, "winner(#)", 0, -2, -2, -2, 5, -2, 3, 3, 3, -2);
        edge.row(x, "say(#)", 0, 0, 0, 0, 128, 0, 64, 64, 64, 0);
        edge.row(x, "turned(#)", 0, 2, 2, 2, 3, 4, 7, 7, 7, -1);
        // a round of three; then b by more
        BlindFiddles y = Due.told(ROOM);
        blind(y, 0, 3, 2, 1);
        blind(y, 1, 1, 3, 2);
        edge.due(y, "winner(6)", -2);
        blind(y, 2, 2, 1, 3);
        edge.due(y, "winner(9)", -2);
        blind(y, 3, 1, 3, 2);
        edge.due(y, "winner(12)", -2);
        blind(y, 4, 1, 3, 2);
        edge.due(y, "winner(15)", 1);
        edge.due(y, "say(15)", 64);
        // whoever wins need not have the greatest MEAN, and may be the last; each other one must be beaten
        BlindFiddles z = Due.told(ROOM);
        blind(z, 0, 1, 1, 1, 1, 1, 1, 1, 2);
        blind(z, 1, 1, 1, 1, 1, 1, 1, 1, 2);
        blind(z, 2, 100, 100, 100, 100, 100, 100, 100, 0);
        edge.due(z, "winner(24)", 7);
        edge.due(z, "best(24, false)", 0);
        edge.due(z, "say(24)", 128);
        z.mark(0, 6, 2, 0, false);
        edge.due(z, "winner(25)", -2);
        edge.due(z, "turned(24)", 24);
    }

    private static void best() {
        Edge edge = Edge.term("BEST: the FIDDLE with the greatest MEAN (WORST: the least), of alike ones the first.",
                39);
        BlindFiddles x = Due.told(ROOM);
        x.mark(0, 1, 10, 0, false);
        x.mark(0, 4, 10, 0, false);
        x.mark(0, 2, 10, 0, false);
        x.mark(1, 2, 11, 0, false);
        x.mark(0, 5, 11, 0, false);
        x.mark(1, 5, 10, 0, false);
        x.mark(0, 7, 99, 0, true);
        x.mark(7, 7, 99, 0, false);
        x.mark(0, 6, 9, 0, false);
        x.mark(0, 0, 0, 0, false);
        x.mark(0, 5, 12, 0, false);
        // b and e alike; c 21 by 2, and f too; g 9; a 0; f 22 by 2
        edge.row(x, "best(#, false)", 0, -2, 1, 1, 1, 2, 5, 2, 2, 2, 2, 2, 5);
        edge.row(x, "best(#, true)", 0, -2, 1, 1, 1, 1, 1, 1, 1, 1, 6, 0, 0);
        BlindFiddles y = Due.told(ROOM);
        blind(y, 0, 100, 100, 100, 100, 100, 100, 100, 100);
        edge.due(y, "best(8, false)", 0);
        edge.due(y, "best(8, true)", 0);
        BlindFiddles z = Due.told(ROOM);
        blind(z, 0, 1, 2, 3, 4, 5, 6, 7, 8);
        edge.row(z, "best(#, false)", 1, 0, 1, 2, 3, 4, 5, 6, 7);
        // by MEANS, not by sums
        z.mark(1, 6, 8, 0, false);
        z.mark(2, 6, 8, 0, false);
        edge.due(z, "best(10, false)", 7);
        z.mark(1, 0, 1, 0, false);
        z.mark(2, 0, 1, 0, false);
        edge.due(z, "best(12, true)", 0);
    }

    /** Of all that can be told, a little; the last FACT is its 21st. */
    private static BlindFiddles some() {
        BlindFiddles x = Due.told(ROOM);
        blind(x, 0, 10, 20, 30, -1, 40);
        blind(x, 0, 11, 22, 33, -1, 44);
        blind(x, 1, 50, -1, -1, -1, 30);
        blind(x, 7, 10, 20, -1, -1, 5);
        for (int i = 0; i < 5; i++) {
            x.guess(i % 2 == 0 ? 0 : 7, i, i < 3);
        }
        x.mark(0, 0, 15, 9, true);
        x.mark(0, 4, 40, 9, true);
        x.annul(0);
        return x;
    }

    private static void coinRefused() {
        Edge edge = Edge.promise(22, "THE COIN: ways with r or more (more), else all; -2: m above 60; -1: no such n.");
        BlindFiddles x = some();
        edge.due(x, "coin(21, true)", 6);
        edge.due(x, "coin(21, false)", 32);
        edge.noSuchN(x, "coin(#, true)", -1);
        edge.noSuchN(x, "coin(#, false)", -1);
        BlindFiddles y = guessed(61, 0, 0, 0);
        edge.row(y, "coin(#, true)", 60, 1, -2, -1);
        edge.row(y, "coin(#, false)", 60, 1L << 60, -2, -1);
        edge.each(y, "coin(#, true)", -1, -1, 62, MIN, MAX);
        edge.each(y, "coin(#, false)", -1, -1, 62, MIN, MAX);
    }

    private static void tableRefused() {
        Edge edge = Edge.promise(23, "THE TABLE: ways with a or more (more), else all; -2, -1 likewise.");
        BlindFiddles x = some();
        // 3 of 5 said old, 4 old, 3 both
        edge.due(x, "table(21, true)", 4);
        edge.due(x, "table(21, false)", 10);
        edge.noSuchN(x, "table(#, true)", -1);
        edge.noSuchN(x, "table(#, false)", -1);
        BlindFiddles y = guessed(30, 0, 31, 0);
        edge.row(y, "table(#, true)", 60, 1, -2, -1);
        edge.row(y, "table(#, false)", 60, 1, -2, -1);
        edge.each(y, "table(#, true)", -1, -1, 62, MIN, MAX);
        edge.each(y, "table(#, false)", -1, -1, 62, MIN, MAX);
    }

    private static void steadyRefused() {
        Edge edge = Edge.promise(24, "STEADY: what 0 how many PAIRS (7 at most), 1 OFF; NONE: no such n, what.");
        BlindFiddles x = some();
        // a has one MARK less since the VOID
        edge.row(x, "steady(20, #)", -1, -1, 4, 1 + 2 + 3 + 4, -1);
        edge.row(x, "steady(21, #)", -1, -1, 3, 2 + 3 + 4, -1);
        edge.each(x, "steady(21, #)", -1, 2, 3, MIN, MAX);
        edge.noSuchN(x, "steady(#, 0)", -1);
        edge.noSuchN(x, "steady(#, 1)", -1);
        edge.due(paired(1, 2, 3, 4, 5, 6, 7, 8, 1, 2, 3, 4, 5, 6, 7, 8), "steady(16, 0)", 7);
        Edge ways = Edge.promise(25, "Its ways with a sum not above OFF; NONE: no such n.");
        ways.due(x, "steadyWays(20)", 1);
        ways.noSuchN(x, "steadyWays(#)", -1);
    }

    private static void kindsRefused() {
        Edge edge = Edge.promise(26, "KINDS BY FIDDLES: what 0 o, 1 w, 2 L, 3 D; -1000000000: no such n, what.");
        BlindFiddles x = some();
        // a 61 by 2, b 22, c 33; e 74 by 2
        edge.row(x, "kinds(21, #)", -1, BAD, 3, 1, 2, 61 + 44 + 66 - 3 * 74, BAD);
        edge.each(x, "kinds(21, #)", BAD, 4, 5, MIN, MAX);
        for (int what = 0; what <= 3; what++) {
            edge.noSuchN(x, "kinds(#, " + what + ")", BAD);
        }
        Edge ways = Edge.promise(27, "Its ways (more), else all; NONE: no such n.");
        // 61, 44, 66, 74: three but the 74 are the least
        ways.due(x, "kindWays(21, true)", 4);
        ways.due(x, "kindWays(21, false)", 4);
        ways.noSuchN(x, "kindWays(#, true)", -1);
        ways.noSuchN(x, "kindWays(#, false)", -1);
    }

    private static void flipsRefused() {
        Edge edge = Edge.promise(28, "KINDS BY PLAYERS: what 0 how many players, 1 the sum of ds; -1000000000: no "
                + "such n, what.");
        BlindFiddles x = some();
        edge.row(x, "flips(21, #)", -1, BAD, 2, 66 - 3 * 44 + 20, BAD);
        edge.each(x, "flips(21, #)", BAD, 2, 3, MIN, MAX);
        edge.noSuchN(x, "flips(#, 0)", BAD);
        edge.noSuchN(x, "flips(#, 1)", BAD);
        Edge ways = Edge.promise(29, "Its ways (of 2 to so many); NONE: no such n.");
        // -66 and 20: all but 20 alone turned
        ways.due(x, "flipWays(21)", 3);
        ways.noSuchN(x, "flipWays(#)", -1);
        ways.due(apartBy(0, 0, 0, 0, 0, 0, 0, 0, 0, 0), "flipWays(20)", 1024);
    }

    private static void smallRefused() {
        Edge edge = Edge.promise(30, "HOW SMALL; -2: with none; NONE: no such n.");
        BlindFiddles x = some();
        edge.due(x, "small(21)", -2);
        edge.due(x, "small(0)", -2);
        edge.noSuchN(x, "small(#)", -1);
        BlindFiddles y = Due.told(ROOM);
        blind(y, 0, 10, 20, 30, -1, 40, 50, 25);
        edge.row(y, "small(#)", 5, -2, 41, -1);
        edge.noSuchN(y, "small(#)", -1);
    }

    private static void knowingRefused() {
        Edge edge = Edge.promise(31, "KNOWING: what 0 how many PAIRS, 1 the sum on old FIDDLES, 2 on new ones; "
                + "-1000000000: no such n, what.");
        BlindFiddles x = some();
        edge.row(x, "knowing(21, #)", -1, BAD, 2, 4, -4, BAD);
        edge.each(x, "knowing(21, #)", BAD, 3, 4, MIN, MAX);
        for (int what = 0; what <= 2; what++) {
            edge.noSuchN(x, "knowing(#, " + what + ")", BAD);
        }
        Edge ways = Edge.promise(32, "Its ways (of 2 to so many); NONE: no such n.");
        ways.due(x, "knowingWays(21)", 3);
        ways.noSuchN(x, "knowingWays(#)", -1);
        BlindFiddles y = Due.told(ROOM);
        for (int pair = 0; pair < 13; pair++) {
            y.mark(pair / 8, pair % 8, 50, 0, false);
            y.mark(pair / 8, pair % 8, 50, 0, true);
        }
        ways.row(y, "knowingWays(#)", 20, 1024, 1024, 2048, 2048, 4096, 4096, 4096);
    }

    private static void spotRefused() {
        Edge edge = Edge.promise(33, "SPOTS: what 0 the sum, 1 how many; NONE: no such n, spot, what.");
        BlindFiddles x = some();
        edge.row(x, "spot(21, 0, #)", -1, -1, 20 + 30 + 40 + 11 + 22 + 33 + 44 + 50 + 30, 9, -1);
        edge.row(x, "spot(21, 9, #)", -1, -1, 0, 0, -1);
        edge.each(x, "spot(21, 0, #)", -1, 2, 3, MIN, MAX);
        edge.each(x, "spot(21, #, 0)", -1, -1, 10, 11, MIN, MAX);
        edge.each(x, "spot(21, #, 1)", -1, -1, 10, 11, MIN, MAX);
        for (int spot = 0; spot <= 9; spot++) {
            edge.noSuchN(x, "spot(#, " + spot + ", 0)", -1);
            edge.noSuchN(x, "spot(#, " + spot + ", 1)", -1);
        }
    }

    private static void rightRefused() {
        Edge edge = Edge.promise(34, "PUT RIGHT; -1000000000: no such n, FIDDLE.");
        BlindFiddles x = some();
        // 28000 by 9 is 3111
        edge.due(x, "right(21, 0)", 1100 + 5000 - 2 * 3111);
        edge.due(x, "right(21, 3)", 0);
        edge.due(x, "right(0, 7)", 0);
        edge.each(x, "right(21, #)", BAD, -1, 8, 9, MIN, MAX);
        for (int fiddle = 0; fiddle <= 7; fiddle++) {
            edge.noSuchN(x, "right(#, " + fiddle + ")", BAD);
        }
    }

    private static void nearRefused() {
        Edge edge = Edge.promise(35, "NEAR AND FAR: what 0 how many FIDDLES, 1 ALIKE, 2 UNLIKE; NONE: no such n, "
                + "what.");
        BlindFiddles x = some();
        // a 30.5, b 22, e 37; 10, 20, 5
        edge.row(x, "near(21, #)", -1, -1, 3, 0, 3, -1);
        edge.each(x, "near(21, #)", -1, 3, 4, MIN, MAX);
        for (int what = 0; what <= 2; what++) {
            edge.noSuchN(x, "near(#, " + what + ")", -1);
        }
        Edge ways = Edge.promise(36, "Its ways; NONE: no such n.");
        ways.due(x, "nearWays(21)", 6);
        ways.noSuchN(x, "nearWays(#)", -1);
    }

    private static void beatsRefused() {
        Edge edge = Edge.promise(37, "BEATS; NONE: no such n, FIDDLES.");
        BlindFiddles x = some();
        edge.row(x, "beats(21, 4, #)", -1, -1, 1, 1, 1, 0, 0, 0, 0, 0, -1);
        edge.row(x, "beats(21, #, 4)", -1, -1, 1, 0, 0, 0, 0, 0, 0, 0, -1);
        edge.each(x, "beats(21, #, 0)", -1, -1, 8, 9, MIN, MAX);
        edge.each(x, "beats(21, 0, #)", -1, -1, 8, 9, MIN, MAX);
        edge.noSuchN(x, "beats(#, 0, 4)", -1);
        edge.noSuchN(x, "beats(#, 0, 0)", -1);
    }

    private static void winnerRefused() {
        Edge edge = Edge.promise(38, "THE WINNER; -2: there is none; NONE: no such n.");
        BlindFiddles x = some();
        edge.due(x, "winner(8)", 4);
        edge.due(x, "winner(21)", -2);
        edge.due(x, "winner(0)", -2);
        edge.noSuchN(x, "winner(#)", -1);
        edge.noSuchN(Due.told(ROOM), "winner(#)", -1);
    }

    private static void bestRefused() {
        Edge edge = Edge.promise(39, "BEST (WORST); -2: none has a MEAN; NONE: no such n.");
        BlindFiddles x = some();
        edge.due(x, "best(21, false)", 4);
        edge.due(x, "best(21, true)", 1);
        edge.due(x, "best(0, false)", -2);
        edge.due(x, "best(0, true)", -2);
        edge.noSuchN(x, "best(#, false)", -1);
        edge.noSuchN(x, "best(#, true)", -1);
        BlindFiddles y = Due.told(ROOM);
        y.mark(7, 0, 50, 0, false);
        y.mark(0, 0, 50, 0, true);
        y.guess(0, 0, true);
        edge.row(y, "best(#, false)", 0, -2, -2, -2, -2, -1);
        edge.row(y, "best(#, true)", 0, -2, -2, -2, -2, -1);
    }
}
