/** Boundary cases of NEED (40), SAY (43) and what turned it (44), of NONE and -2, and of an object's 512 calls. */
final class SayEdges {
    private static final int MIN = Edge.MIN;
    private static final int MAX = Edge.MAX;
    private static final String ROOM = FactEdges.ROOM;

    private SayEdges() {
    }

    static void hold() {
        need();
        needRefused();
        say();
        saidNot();
        sayRefused();
        turned();
        noneAheadOfMinusTwo();
        lastCalls();
    }

    private static void isNeed(Edge edge, int u, int v, int a, int b, int n, int r) {
        BlindFiddles x = new BlindFiddles();
        edge.row(x, "need(" + u + ", " + v + ", " + a + ", " + b + ", #)", 0, n, r);
    }

    private static void need() {
        Edge edge = Edge.term("NEED for u, v (2 .. 1000) and a of b (b 2 .. 4): the fewest n (1 .. 30) for which "
                + "there is an r, and the least such r: u times the rows of n coins with r or more right are not "
                + "above 2 to the n, and v times the rows of n tries that are right a of b times with fewer than r "
                + "right not above b to the n.", 40);
        // the fewest: 1; u times 1 is 2 to the n just; one more
        isNeed(edge, 2, 2, 2, 2, 1, 1);
        isNeed(edge, 2, 1000, 2, 2, 1, 1);
        isNeed(edge, 3, 2, 3, 3, 2, 2);
        isNeed(edge, 32, 1000, 2, 2, 5, 5);
        isNeed(edge, 33, 1000, 2, 2, 6, 6);
        isNeed(edge, 512, 2, 4, 4, 9, 9);
        isNeed(edge, 513, 2, 4, 4, 10, 10);
        isNeed(edge, 1000, 1000, 2, 2, 10, 10);
        isNeed(edge, 1000, 1000, 3, 3, 10, 10);
        isNeed(edge, 1000, 1000, 4, 4, 10, 10);
        // v times 1 is b to the n just: 1 of 4 wrong with 1 try, and no more
        isNeed(edge, 2, 4, 3, 4, 1, 1);
        isNeed(edge, 2, 5, 3, 4, 3, 2);
        isNeed(edge, 2, 3, 2, 3, 1, 1);
        isNeed(edge, 2, 2, 1, 2, 1, 1);
        isNeed(edge, 2, 3, 1, 2, -2, -2);
        isNeed(edge, 4, 4, 3, 4, 7, 5);
        isNeed(edge, 2, 30, 3, 4, 13, 7);
        isNeed(edge, 5, 20, 3, 4, 26, 16);
        isNeed(edge, 20, 2, 2, 3, 28, 19);
        isNeed(edge, 20, 5, 3, 4, 23, 16);
        // 30 tries at most
        isNeed(edge, 9, 19, 3, 4, 30, 19);
        isNeed(edge, 10, 19, 3, 4, -2, -2);
        isNeed(edge, 20, 9, 3, 4, 30, 20);
        isNeed(edge, 21, 9, 3, 4, -2, -2);
        isNeed(edge, 46, 5, 3, 4, 30, 21);
        isNeed(edge, 47, 5, 3, 4, -2, -2);
        // 31 would do
        isNeed(edge, 23, 7, 3, 4, -2, -2);
        isNeed(edge, 22, 7, 3, 4, 28, 19);
        isNeed(edge, 1000, 1000, 3, 4, -2, -2);
        isNeed(edge, 2, 1000, 3, 4, -2, -2);
        isNeed(edge, 1000, 2, 3, 4, -2, -2);
        // never right, or less than by a coin
        for (int b = 2; b <= 4; b++) {
            isNeed(edge, 2, 2, 0, b, -2, -2);
            isNeed(edge, 2, 1000, b, b, 1, 1);
        }
        isNeed(edge, 2, 2, 1, 3, -2, -2);
        isNeed(edge, 2, 2, 1, 4, -2, -2);
    }

    private static void needRefused() {
        Edge edge = Edge.promise(40, "NEED: what 0 n, 1 r; -2: there is none; NONE: no such ones (a 0 .. b).");
        BlindFiddles x = new BlindFiddles();
        edge.row(x, "need(20, 5, 3, 4, #)", -1, -1, 23, 16, -1);
        edge.row(x, "need(20, 5, 1, 4, #)", -1, -1, -2, -2, -1);
        edge.row(x, "need(20, 5, #, 4, 0)", -1, -1, -2, -2, -2, 23, 5, -1);
        edge.row(x, "need(2, 1000, #, 2, 0)", -1, -1, -2, -2, 1, -1);
        edge.each(x, "need(20, 5, 3, 4, #)", -1, 3, MIN, MAX);
        for (int what = 0; what <= 1; what++) {
            edge.each(x, "need(#, 2, 2, 2, " + what + ")", -1, -1, 0, 1, 1001, MIN, MAX);
            edge.each(x, "need(2, #, 2, 2, " + what + ")", -1, -1, 0, 1, 1001, MIN, MAX);
            edge.each(x, "need(2, 2, 1, #, " + what + ")", -1, -1, 0, 1, 5, MIN, MAX);
            edge.each(x, "need(2, 2, #, #, " + what + ")", -1, -1, 0, 1, 5, MIN, MAX);
            edge.each(x, "need(2, 2, 0, #, " + what + ")", -1, 0, 1, 5);
            edge.each(x, "need(2, 2, #, 2, " + what + ")", -1, -1, 3, 4, MIN, MAX);
            edge.each(x, "need(2, 2, #, 3, " + what + ")", -1, -1, 4, MIN, MAX);
            edge.each(x, "need(2, 2, #, 4, " + what + ")", -1, -1, 5, MIN, MAX);
            edge.each(x, "need(2, 2, #, #, " + what + ")", 1, 2, 3, 4);
        }
    }

    /** Blind MARKS at spot 0, each twice the one value, in threes: a PERSON, a FIDDLE, the value. */
    private static BlindFiddles marked(int times, int... threes) {
        BlindFiddles x = Due.told(ROOM);
        for (int i = 0; i < threes.length; i += 3) {
            for (int j = 0; j < times; j++) {
                x.mark(threes[i], threes[i + 1], threes[i + 2], 0, false);
            }
        }
        return x;
    }

    private static void isSay(Edge edge, BlindFiddles x, int want) {
        int n = x.count(5);
        edge.due(x, "say(" + n + ")", want);
        // what turned it last is not behind the last FACT
        edge.due(x, "turned(" + n + ")", -1);
    }

    private static void say() {
        Edge edge = Edge.term("SAY, as KNOWN by n (bits): 1: THE COIN's ways by 20 are not above all; 2: KINDS BY "
                + "FIDDLES' ways likewise; 4: BY PLAYERS' likewise; 8: KNOWING's likewise; 16: STEADY's likewise; "
                + "32: NEAR AND FAR's likewise; 64: there is a WINNER and it is old; 128: and it is new.", 43, 44);
        BlindFiddles coin = Due.told(ROOM);
        for (int i = 0; i < 8; i++) {
            coin.guess(i, i, i < 4);
        }
        // 1 of 16 is not rare, 1 of 32 is
        edge.row(coin, "say(#)", 0, 0, 0, 0, 0, 0, 1, 1, 1, 1);
        coin.guess(0, 0, false);
        coin.guess(0, 0, false);
        coin.guess(0, 0, false);
        // 10 of 512 are rare, 56 of 1024 not (51.2 would be), but 232 of 2048 neither
        edge.row(coin, "coin(#, true)", 9, 10, 56, 232);
        edge.row(coin, "say(#)", 9, 1, 0, 0);
        edge.row(coin, "turned(#)", 0, 4, 4, 4, 4, 4, 9, 9, 9, 9, 9, -1, -1);
        // of 60 GUESSES 37 right are enough, and 36 or 30 not, however great 20 times the ways are
        int[] rights = {60, 37, 36, 31, 30, 29, 28, 27, 0};
        for (int i = 0; i < rights.length; i++) {
            BlindFiddles x = Due.told(ROOM);
            for (int j = 0; j < 60; j++) {
                x.guess(j % 10, 0, j < rights[i]);
            }
            edge.due(x, "say(60)", i < 2 ? 1 : 0);
        }
        // each of the others by itself: by many players, so that none has two FIDDLES of those that would win
        isSay(edge, marked(1, 0, 0, 99, 1, 1, 98, 2, 2, 97, 3, 4, 96, 4, 5, 95, 5, 6, 94), 2);
        isSay(edge, marked(1, 0, 0, 55, 0, 4, 50, 1, 0, 55, 1, 4, 50, 2, 0, 55, 2, 4, 50, 3, 0, 55, 3, 4, 50, 4, 0, 55,
                4, 4, 50, 5, 1, 9), 4);
        isSay(edge, marked(2, 0, 0, 10, 1, 1, 20, 2, 2, 30, 3, 3, 40), 16);
        isSay(edge, marked(1, 0, 0, 10, 1, 1, 20, 2, 2, 30, 3, 3, 40, 7, 0, 1, 7, 1, 2, 7, 2, 3, 7, 3, 4), 32);
        isSay(edge, marked(1, 0, 0, 10), 64);
        isSay(edge, marked(1, 0, 4, 10), 128);
        BlindFiddles knowing = marked(1, 0, 0, 50, 0, 1, 50, 0, 2, 50, 0, 4, 50, 0, 5, 50);
        for (int fiddle : new int[] {0, 1, 2, 4, 5}) {
            knowing.mark(0, fiddle, 51, 0, true);
        }
        isSay(edge, knowing, 8);
        // all at once, but that one FIDDLE only can win
        BlindFiddles all = marked(2, 0, 0, 90, 0, 1, 91, 0, 2, 92, 0, 4, 50, 0, 5, 51, 0, 6, 52);
        for (int fiddle : new int[] {0, 1, 2, 4, 5, 6}) {
            all.mark(0, fiddle, 93, 0, true);
            all.mark(7, fiddle, fiddle < 4 ? 20 + fiddle : fiddle, 0, false);
        }
        for (int player = 1; player < 5; player++) {
            all.mark(player, 0, 90, 0, false);
            all.mark(player, 4, 50, 0, false);
        }
        for (int i = 0; i < 5; i++) {
            all.guess(i, i, i < 4);
        }
        isSay(edge, all, 127);
        edge.due(all, "turned(33)", 36);
        edge.row(all, "say(#)", 36, 126, 127);
    }

    private static void saidNot() {
        Edge edge = Edge.term("(What is -2, or of no PAIR, GUESS: not.)", 43, 44);
        BlindFiddles x = Due.told(ROOM);
        edge.due(x, "say(0)", 0);
        x.mark(0, 0, 50, 0, true);
        x.mark(7, 0, 50, 0, false);
        x.mark(7, 0, 50, 0, true);
        x.annul(0);
        edge.row(x, "say(#)", 0, 0, 0, 0, 0, 0);
        edge.row(x, "turned(#)", 0, -1, -1, -1, -1, -1);
        for (int i = 0; i < 61; i++) {
            x.guess(0, 0, true);
        }
        edge.row(x, "say(#)", 62, 1, 1, 1, 0);
        edge.due(x, "coin(65, true)", -2);
        edge.row(x, "turned(#)", 0, 8, 8, 8, 8, 8, 8, 8, 8, 8, 64);
        edge.due(x, "turned(64)", 64);
    }

    private static void sayRefused() {
        Edge edge = Edge.promise(43, "SAY; NONE: no such n.");
        BlindFiddles x = Due.told(ROOM);
        edge.due(x, "say(0)", 0);
        edge.each(x, "say(#)", -1, -1, 1, 2, 80, 81, MIN, MAX);
        x.mark(0, 0, 50, 0, false);
        edge.due(x, "say(1)", 64);
        edge.noSuchN(x, "say(#)", -1);
        for (int i = 1; i < 80; i++) {
            edge.each(x, "say(#)", -1, i + 1);
            x.mark(0, 4, i, 0, false);
        }
        // 50 is beaten by 51 to 79
        edge.row(x, "say(#)", 79, 128, 128, -1, -1);
        edge.row(x, "say(#)", 49, 64, 64, 0, 128);
        edge.noSuchN(x, "say(#)", -1);
    }

    private static void turned() {
        Edge edge = Edge.promise(44, "The first FACT from one on with which (it and those ahead KNOWN) SAY has "
                + "another value than without it; NONE: none, no such FACT.");
        BlindFiddles x = Due.told(ROOM);
        edge.each(x, "turned(#)", -1, -1, 0, 1, 79, 80, MIN, MAX);
        x.mark(7, 0, 50, 0, false);
        edge.each(x, "turned(#)", -1, -1, 0, 1, 2, MIN, MAX);
        x.mark(0, 0, 50, 0, false);
        x.mark(0, 0, 51, 0, false);
        x.mark(0, 4, 52, 0, false);
        x.mark(0, 5, 1, 0, false);
        x.annul(3);
        x.guess(0, 0, true);
        x.annul(1);
        x.annul(2);
        // a FACT turns it, the first as well as the last, and a VOID does
        edge.row(x, "say(#)", 0, 0, 0, 64, 64, 128, 128, 64, 64, 64, 128);
        edge.row(x, "turned(#)", -1, -1, 1, 1, 3, 3, 5, 5, 8, 8, 8, -1, -1);
        edge.each(x, "turned(#)", -1, -1, 9, 10, 79, 80, 81, MIN, MAX);
        x.guess(0, 0, true);
        edge.row(x, "turned(#)", 8, 8, -1, -1);
        // all 80: the last turns it
        BlindFiddles y = Due.told(ROOM);
        for (int i = 0; i < 79; i++) {
            y.mark(0, 4, 90, 0, false);
        }
        edge.row(y, "turned(#)", 0, 0, -1);
        y.mark(0, 0, 91, 0, false);
        edge.row(y, "turned(#)", 0, 0, 79, 79);
        edge.row(y, "turned(#)", 78, 79, 79, -1, -1);
        // as the text is now
        edge.due(y, "say(80)", 64);
        edge.tell(y, ROOM.replace("fiddle a old", "fiddle a new"));
        edge.row(y, "say(#)", 79, 128, 128);
        edge.row(y, "turned(#)", 0, 0, -1);
    }

    private static void noneAheadOfMinusTwo() {
        Edge edge = Edge.term("Where NONE and -2 could both be told, it is NONE, if it is not told otherwise.",
                11, 19, 22, 23, 30, 38, 39, 40, 42);
        BlindFiddles x = Due.told(ROOM + "bow w 0 0 0;law z=7;");
        // nothing is KNOWN, no PLAN is there, nothing is small enough: -2, but NONE for what there is not
        edge.due(x, "last(0, 0, false, 0)", -2);
        edge.each(x, "last(#, 0, false, 0)", -1, -1, 10);
        edge.each(x, "last(0, #, true, 0)", -1, -1, 8);
        edge.each(x, "last(0, 0, false, #)", -1, -1, 1);
        edge.due(x, "small(0)", -2);
        edge.each(x, "small(#)", -1, -1, 1);
        edge.due(x, "winner(0)", -2);
        edge.each(x, "winner(#)", -1, -1, 1);
        for (String worst : new String[] {"false", "true"}) {
            edge.due(x, "best(0, " + worst + ")", -2);
            edge.each(x, "best(#, " + worst + ")", -1, -1, 1);
        }
        edge.due(x, "next(0, 0, 7)", -2);
        edge.each(x, "next(#, 0, 7)", -1, -1, 1);
        edge.each(x, "next(0, #, 7)", -1, -1, 1);
        edge.due(x, "need(2, 2, 0, 2, 0)", -2);
        edge.each(x, "need(2, 2, 0, 2, #)", -1, -1, 2);
        edge.each(x, "need(#, 2, 0, 2, 0)", -1, 1, 1001);
        edge.each(x, "need(2, #, 0, 2, 0)", -1, 1, 1001);
        edge.each(x, "need(2, 2, 0, #, 0)", -1, 1, 5);
        edge.each(x, "need(2, 1000, #, 4, 0)", -1, -1, 5);
        // it is told otherwise: -2 for what there is not
        edge.due(x, "takes(0, 0, 7, -1)", -2);
        edge.due(x, "takes(-1, 0, 7, -1)", -2);
        edge.due(x, "takes(0, 1, 7, 8)", -2);
        for (int i = 0; i < 61; i++) {
            x.guess(0, 0, true);
        }
        for (String more : new String[] {"true", "false"}) {
            edge.due(x, "coin(61, " + more + ")", -2);
            edge.due(x, "table(61, " + more + ")", -2);
            edge.each(x, "coin(#, " + more + ")", -1, -1, 62, MIN, MAX);
            edge.each(x, "table(#, " + more + ")", -1, -1, 62, MIN, MAX);
        }
    }

    /** Calls, and what is due of each, of an object that has been told LAST_TEXT and seven FACTS. */
    private static final String LAST_TEXT = ROOM + "bow w 0 0 0;law z=bright;law v=0-bright;plan x{sit i with w:a,e;}";
    private static final String[] LAST_CALLS = {"feed(1, 2, 3, 4, 5) 20", "back(0) 0", "read() 0", "place() -1",
            "fiddle(7, 3) 1", "person(9, 0) 1", "sitting(0, 0, 11) 4", "liking(1, 0, 0, 0, false, 0, 0) -1",
            "taken(0, 0, 7, 0) 0", "takes(0, 0, 7, -1) 1", "run(0, 0, 1, 7) 4", "touch(0, 0, 0, 0, 3, true) 4",
            "gains(0, 0, 1, 0) 28", "mark(0, 0, 50, 0, false) 7", "guess(0, 0, true) 7", "annul(0) 7", "fact(6, 0) 1",
            "last(0, 0, false, 7) 45", "mean(0, false, 7, 0) 45", "guesses(7, 0) 1", "coin(7, false) 2",
            "table(7, true) 1", "steady(7, 1) 5", "steadyWays(7) 1", "kinds(7, 3) 15", "kindWays(7, false) 2",
            "flips(7, 1) 15", "flipWays(7) 1", "small(7) -2", "knowing(7, 1) 15", "knowingWays(7) 1",
            "spot(7, 0, 0) 85", "right(7, 0) 0", "near(7, 1) 1", "nearWays(7) 1", "beats(7, 0, 4) 1", "winner(7) 0",
            "best(7, true) 4", "need(20, 5, 3, 4, 1) 16", "parts(0, 0, 1, 7) 0", "next(0, 1, 7) 0", "say(7) 64",
            "turned(0) 0", "count(5) 7"};

    private static void lastCalls() {
        int[] all = new int[44];
        for (int i = 0; i < all.length; i++) {
            all[i] = i + 2;
        }
        Edge edge = Edge.term("An object is used for at most 512 calls after it has been made; what later calls "
                + "answer is free.", all);
        int told = (LAST_TEXT.length() + 19) / 20 + 2 + 7;
        for (String call : LAST_CALLS) {
            BlindFiddles x = Due.told(LAST_TEXT);
            x.mark(0, 0, 40, 0, false);
            x.mark(0, 4, 30, 1, false);
            x.mark(0, 0, 60, 0, true);
            x.mark(7, 0, 50, 0, false);
            x.mark(7, 4, 20, 0, false);
            x.mark(0, 0, 45, 0, false);
            x.guess(0, 0, true);
            // the one asked is the 512th
            for (int i = told; i < 511; i++) {
                x.count(i % 20);
            }
            int space = call.lastIndexOf(' ');
            edge.due(x, call.substring(0, space), Long.parseLong(call.substring(space + 1)));
        }
        // 512 of the dearest calls, each as the first
        BlindFiddles y = Due.told("fiddle a old 1 1 1;player i 0 0 0 0;bow w 0 0 0;law l=bright;"
                + "plan x{sit i with w:a;}");
        for (int i = 8; i < 511; i += 3) {
            edge.due(y, "touch(0, 0, 0, 0, 3, true)", 4);
            edge.due(y, "gains(0, 0, 3, 0)", 3);
            edge.due(y, "next(0, 0, " + i + ")", 0);
        }
    }
}
