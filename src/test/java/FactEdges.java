/** Boundary cases of FACTS, of what is KNOWN, of LAST and MEAN: promises 15 to 21, and those behind that use them. */
final class FactEdges {
    private static final int MIN = Edge.MIN;
    private static final int MAX = Edge.MAX;
    private static final int BAD = -1000000000;

    /** FIDDLES 0 to 3 are old, 4 to 7 new; players are 0 to 6, hearers 7 to 9. */
    static final String ROOM = "fiddle a old 1 1 1;fiddle b old 1 1 1;fiddle c old 1 1 1;fiddle d old 1 1 1;"
            + "fiddle e new 1 1 1;fiddle f new 1 1 1;fiddle g new 1 1 1;fiddle h new 1 1 1;"
            + "player i 1 1 1 1;player j 1 1 1 1;player k 1 1 1 1;player l 1 1 1 1;player m 1 1 1 1;player n 1 1 1 1;"
            + "player o 1 1 1 1;hearer p 1 1 1 1;hearer q 1 1 1 1;hearer r 1 1 1 1;";

    private FactEdges() {
    }

    static void hold() {
        eighty();
        knownByN();
        aMark();
        aGuess();
        last();
        mean();
        thoseNotThere();
        markNumber();
        markRefused();
        guessRefused();
        voidNumber();
        voidRefused();
        ofFact();
        ofFactOthers();
        lastRefused();
        meanRefused();
        guessesRefused();
    }

    /** Blind MARKS at spot 0 of a PERSON on FIDDLES from 0 on; none where the value is below 0. */
    static void blind(BlindFiddles x, int person, int... values) {
        for (int fiddle = 0; fiddle < values.length; fiddle++) {
            if (values[fiddle] >= 0) {
                x.mark(person, fiddle, values[fiddle], 0, false);
            }
        }
    }

    private static void eighty() {
        Edge edge = Edge.term("FACTS, numbered from 0 on, 80 at most;", 12, 15, 16, 17, 18, 45);
        String those = ROOM + "bow w 0 0 0;law z=7;plan x{sit i with w:a;}plan y{sit i with w seen:a;}";
        BlindFiddles x = Due.told(those);
        for (int i = 0; i < 77; i += 3) {
            edge.due(x, "mark(0, 0, 1, 0, false)", i);
            edge.due(x, "guess(0, 0, true)", i + 1);
            edge.due(x, "annul(" + i + ")", i + 2);
        }
        edge.due(x, "run(0, 0, 0, 7)", 2);
        edge.due(x, "count(5)", 80);
        edge.due(x, "fact(78, 0)", 0);
        edge.due(x, "fact(79, 0)", 1);
        edge.due(x, "fact(80, 0)", -1);
        edge.due(x, "run(1, 0, 0, 7)", -1);
        edge.due(x, "mark(0, 0, 1, 0, false)", -1);
        edge.due(x, "guess(0, 0, true)", -1);
        edge.due(x, "annul(0)", -1);
        edge.due(x, "count(5)", 80);
        // the 80th may be of any kind
        String[] calls = {"mark(0, 0, 1, 0, false)", "guess(0, 0, true)", "annul(0)", "run(1, 0, 0, 7)"};
        for (int kind = 0; kind < 4; kind++) {
            BlindFiddles y = Due.told(those);
            for (int i = 0; i < 79; i++) {
                y.mark(0, 0, i, 0, false);
            }
            edge.due(y, calls[kind], kind == 3 ? 1 : 79);
            edge.due(y, "fact(79, 0)", kind == 3 ? 0 : kind);
            edge.due(y, "fact(78, 3)", 78);
            for (String call : calls) {
                edge.due(y, call, -1);
            }
            edge.due(y, "count(5)", 80);
            edge.due(y, "fact(79, 0)", kind == 3 ? 0 : kind);
            // a text does not make room
            edge.tell(y, those);
            edge.due(y, "mark(0, 0, 1, 0, false)", -1);
        }
    }

    private static void knownByN() {
        Edge edge = Edge.term("as KNOWN by n: the first n of them, without those that a VOID among them names (no "
                + "VOID).", 19, 20, 21, 22, 23, 24, 25, 26, 27, 28, 29, 30, 31, 32, 33, 34, 35, 36, 37, 38, 39, 43, 44);
        marksKnownByN(edge);
        guessesKnownByN(edge);
        smallKnownByN(edge);
    }

    /**
     * Of a player: a 40, then 90; b 20; e 50, then 45; seen a 60, e 70. Of a hearer: a 30, e 20.
     * FACTS 9 to 13 make void the 90, the 40, the 20, the seen 70 and the hearer's 20.
     */
    private static void marksKnownByN(Edge edge) {
        BlindFiddles x = Due.told(ROOM);
        x.mark(0, 0, 40, 0, false);
        x.mark(0, 4, 50, 1, false);
        x.mark(0, 4, 45, 1, false);
        x.mark(0, 1, 20, 0, false);
        x.mark(0, 0, 60, 0, true);
        x.mark(0, 4, 70, 0, true);
        x.mark(7, 0, 30, 0, false);
        x.mark(7, 4, 20, 0, false);
        x.mark(0, 0, 90, 0, false);
        for (int fact : new int[] {8, 0, 3, 5, 7}) {
            edge.due(x, "annul(" + fact + ")", x.count(5));
        }
        edge.row(x, "last(0, 0, false, #)", 0, -2, 40, 40, 40, 40, 40, 40, 40, 40, 90, 40, -2, -2, -2, -2);
        edge.row(x, "last(0, 4, true, #)", 5, -2, 70, 70, 70, 70, 70, 70, 70, -2, -2);
        edge.row(x, "last(7, 4, false, #)", 7, -2, 20, 20, 20, 20, 20, 20, -2);
        edge.row(x, "mean(0, false, #, 0)", 0, 0, 40, 40, 40, 40, 40, 40, 40, 40, 90, 40, 0, 0, 0, 0);
        edge.row(x, "mean(0, false, #, 1)", 0, 0, 1, 1, 1, 1, 1, 1, 1, 1, 1, 1, 0, 0, 0, 0);
        edge.row(x, "mean(4, true, #, 0)", 7, 0, 20, 20, 20, 20, 20, 20, 0);
        edge.row(x, "steady(#, 0)", 2, 0, 1, 1, 1, 1, 1, 1, 2, 1, 1, 1, 1, 1);
        edge.row(x, "steady(#, 1)", 2, 0, 5, 5, 5, 5, 5, 5, 55, 5, 5, 5, 5, 5);
        edge.row(x, "steadyWays(#)", 2, 1, 1, 1, 1, 1, 1, 1, 2, 1, 1, 1, 1, 1);
        edge.row(x, "kinds(#, 0)", 3, 1, 2, 2, 2, 2, 2, 2, 2, 1, 0, 0, 0);
        edge.row(x, "kinds(#, 1)", 0, 0, 0, 1, 1, 1);
        // at 9: 110 less 2 * 45; at 10: 60 less 90
        edge.row(x, "kinds(#, 3)", 2, -10, -5, -30, -30, -30, -30, -30, 20, -30, -25, 0, 0, 0);
        edge.row(x, "kindWays(#, true)", 8, 3, 2, 3, 2, 1, 1, 1);
        edge.row(x, "kindWays(#, false)", 8, 3, 3, 3, 2, 1, 1, 1);
        edge.row(x, "flips(#, 0)", 1, 0, 1, 1, 1, 1, 1, 1, 1, 1, 1, 1, 0, 0, 0);
        edge.row(x, "flips(#, 1)", 8, -30, 20, -30, -25, 0, 0, 0);
        edge.row(x, "flipWays(#)", 8, 2, 1, 2, 2, 1, 1, 1);
        // at 9: -30 on a, 25 on e; at 10: 20 and 25
        edge.row(x, "knowing(#, 0)", 4, 0, 1, 2, 2, 2, 2, 2, 1, 1, 0, 0);
        edge.row(x, "knowing(#, 1)", 8, 20, -30, 20, 0, 0, 0, 0);
        edge.row(x, "knowing(#, 2)", 8, 25, 25, 25, 25, 25, 0, 0);
        edge.row(x, "knowingWays(#)", 8, 1, 3, 1, 1, 1, 1, 1);
        edge.row(x, "spot(#, 0, 0)", 8, 60, 150, 60, 20, 0, 0, 0);
        edge.row(x, "spot(#, 0, 1)", 8, 2, 3, 2, 1, 0, 0, 0);
        // at 9: 40 and 90 by 50; at 10: 40 by 30
        edge.row(x, "right(#, 0)", 8, 1000, 3000, 1000, 0, 0, 0, 0);
        edge.row(x, "right(#, 1)", 8, -1000, -3000, -1000, 0, 0, 0, 0);
        edge.row(x, "near(#, 0)", 6, 0, 1, 2, 2, 2, 1, 1, 1, 0);
        edge.row(x, "near(#, 1)", 8, 0, 1, 0, 0);
        edge.row(x, "near(#, 2)", 8, 1, 0, 1, 0);
        edge.row(x, "nearWays(#)", 8, 2, 1, 2, 1);
        edge.row(x, "beats(#, 0, 4)", 1, 0, 0, 0, 0, 0, 0, 0, 0, 1, 0, 0);
        edge.row(x, "beats(#, 4, 0)", 1, 0, 1, 1, 1, 1, 1, 1, 1, 0, 1, 0);
        edge.row(x, "winner(#)", 0, -2, 0, 4, 4, 4, 4, 4, 4, 4, 0, 4, 4, 4, 4, 4);
        edge.row(x, "best(#, false)", 0, -2, 0, 4, 4, 4, 4, 4, 4, 4, 0, 4, 4, 4, 4, 4);
        edge.row(x, "best(#, true)", 0, -2, 0, 0, 0, 1, 1, 1, 1, 1, 1, 1, 1, 4, 4, 4);
        edge.row(x, "say(#)", 0, 0, 64, 128, 128, 128, 128, 128, 128, 128, 64, 128, 128, 128, 128, 128);
        edge.row(x, "turned(#)", 0, 0, 1, 8, 8, 8, 8, 8, 8, 8, 9, -1, -1, -1, -1, -1);
        // a VOID that comes changes nothing for those n that are ahead of it
        x.annul(2);
        edge.row(x, "last(0, 4, false, #)", 13, 45, 45, 50, -1);
        edge.row(x, "steady(#, 0)", 9, 2, 1, 1, 1, 1, 1, 0);
        // one that is named twice is gone once
        x.annul(2);
        edge.row(x, "last(0, 4, false, #)", 14, 45, 50, 50, -1);
        // the VOID of the only one left: nothing is KNOWN of it, but the VOIDS are no MARKS either
        x.annul(1);
        edge.row(x, "mean(4, false, #, 1)", 16, 1, 0);
        edge.row(x, "winner(#)", 16, 4, -2);
        edge.row(x, "say(#)", 16, 128, 0);
        edge.row(x, "turned(#)", 14, 16, 16, 16, -1);
    }

    private static void guessesKnownByN(Edge edge) {
        BlindFiddles x = Due.told(ROOM);
        x.guess(0, 0, true);
        x.guess(7, 1, false);
        x.guess(0, 4, true);
        x.annul(2);
        x.annul(0);
        edge.row(x, "guesses(#, 0)", 0, 0, 1, 2, 3, 2, 1);
        edge.row(x, "guesses(#, 1)", 0, 0, 1, 1, 1, 1, 0);
        edge.row(x, "guesses(#, 2)", 0, 0, 1, 1, 2, 1, 0);
        edge.row(x, "guesses(#, 3)", 0, 0, 1, 2, 2, 2, 1);
        edge.row(x, "guesses(#, 4)", 0, 0, 1, 1, 1, 1, 0);
        edge.row(x, "coin(#, true)", 0, 1, 1, 3, 7, 3, 2);
        edge.row(x, "coin(#, false)", 0, 1, 2, 4, 8, 4, 2);
        // 2 of 3 with 1 or 2 of the two old ones; 1 of 2; none of 1
        edge.row(x, "table(#, true)", 0, 1, 1, 2, 3, 2, 1);
        edge.row(x, "table(#, false)", 0, 1, 1, 2, 3, 2, 1);
    }

    private static void smallKnownByN(Edge edge) {
        BlindFiddles x = Due.told(ROOM);
        blind(x, 0, 10, 20, 30, -1, 40, 50, 25);
        x.mark(0, 5, 44, 0, false);
        x.annul(6);
        x.annul(5);
        // with 1 way of 20: 10 and x above the greatest new one, 50, 44, 50; then there are 10 ways only
        edge.row(x, "small(#)", 5, -2, 41, 35, 41, -2);
    }

    private static void aMark() {
        Edge edge = Edge.term("A MARK: a PERSON, a FIDDLE, 0 .. 100, its spot (0 .. 9), seen or blind.", 15, 18);
        BlindFiddles x = Due.told(ROOM);
        edge.due(x, "mark(0, 0, 0, 0, false)", 0);
        edge.due(x, "mark(9, 7, 100, 9, true)", 1);
        edge.due(x, "mark(7, 0, 1, 9, false)", 2);
        edge.due(x, "mark(6, 7, 99, 0, true)", 3);
        edge.row(x, "fact(0, #)", 0, 0, 0, 0, 0, 0, 0);
        edge.row(x, "fact(1, #)", 0, 0, 9, 7, 100, 9, 1);
        edge.row(x, "fact(2, #)", 0, 0, 7, 0, 1, 9, 0);
        edge.row(x, "fact(3, #)", 0, 0, 6, 7, 99, 0, 1);
        edge.each(x, "mark(0, 0, #, 0, false)", -1, -1, 101, MIN, MAX);
        edge.each(x, "mark(0, 0, 0, #, false)", -1, -1, 10, MIN, MAX);
        edge.each(x, "mark(0, 0, #, 0, true)", -1, -1, 101, MIN, MAX);
        edge.each(x, "mark(0, 0, 0, #, true)", -1, -1, 10, MIN, MAX);
        edge.due(x, "count(5)", 4);
        for (int spot = 0; spot <= 9; spot++) {
            edge.due(x, "mark(0, 0, 50, " + spot + ", false)", 4 + spot);
            edge.due(x, "fact(" + (4 + spot) + ", 4)", spot);
        }
    }

    private static void aGuess() {
        Edge edge = Edge.term("A GUESS: a PERSON says of a FIDDLE that it is old, or new (always blind).", 12, 16, 18);
        BlindFiddles x = Due.told(ROOM + "bow w 0 0 0;law z=7;law v=0;plan x{sit i with w seen:a,b;}plan y{sit i "
                + "with w:a;}");
        edge.due(x, "guess(9, 7, true)", 0);
        edge.due(x, "guess(0, 0, false)", 1);
        edge.row(x, "fact(0, #)", 0, 1, 9, 7, 1, -1, -1);
        edge.row(x, "fact(1, #)", 0, 1, 0, 0, 0, -1, -1);
        // who sees guesses not
        edge.due(x, "run(0, 0, 0, 7)", 2);
        edge.row(x, "fact(#, 0)", 1, 1, 0, 0, -1);
        edge.due(x, "run(1, 0, 0, 7)", 2);
        edge.due(x, "run(1, 0, 1, 7)", 2);
        edge.row(x, "fact(#, 0)", 4, 0, 1, 0, 1, -1);
        edge.row(x, "fact(#, 3)", 4, 7, 1, 7, 0);
    }

    private static void last() {
        Edge edge = Edge.term("LAST of a PERSON and a FIDDLE (blind or seen): the last such MARK that is KNOWN.",
                19, 20, 26, 27, 28, 29, 30, 31, 32, 35, 36, 37, 38, 39, 43, 44);
        BlindFiddles x = Due.told(ROOM);
        x.mark(0, 0, 10, 0, false);
        x.mark(0, 4, 50, 0, false);
        x.mark(0, 0, 70, 5, true);
        x.mark(0, 0, 90, 3, false);
        x.mark(0, 0, 95, 3, true);
        x.mark(7, 0, 30, 0, false);
        x.mark(7, 4, 40, 0, false);
        x.mark(7, 0, 60, 0, false);
        edge.row(x, "last(0, 0, false, #)", 0, -2, 10, 10, 10, 90, 90, 90, 90, 90);
        edge.row(x, "last(0, 0, true, #)", 0, -2, -2, -2, 70, 70, 95, 95, 95, 95);
        edge.row(x, "last(7, 0, false, #)", 5, -2, 30, 30, 60);
        edge.due(x, "last(7, 0, true, 8)", -2);
        edge.due(x, "last(1, 0, false, 8)", -2);
        edge.due(x, "last(0, 1, false, 8)", -2);
        edge.row(x, "mean(0, false, #, 0)", 1, 10, 10, 10, 90, 90);
        edge.row(x, "mean(0, false, #, 1)", 1, 1, 1, 1, 1, 1);
        edge.row(x, "mean(0, true, #, 0)", 5, 0, 30, 30, 60);
        edge.row(x, "kinds(#, 3)", 2, -40, -40, 40, 40);
        edge.row(x, "kindWays(#, true)", 2, 2, 2, 1, 1);
        edge.row(x, "flips(#, 1)", 2, -40, -40, 40, 40);
        edge.row(x, "flipWays(#)", 2, 2, 2, 1, 1);
        edge.row(x, "knowing(#, 0)", 2, 0, 1, 1, 1);
        edge.row(x, "knowing(#, 1)", 2, 0, 60, -20, 5);
        edge.row(x, "knowingWays(#)", 2, 1, 1, 2, 1);
        edge.row(x, "near(#, 1)", 7, 0, 1);
        edge.row(x, "near(#, 2)", 7, 1, 0);
        edge.row(x, "nearWays(#)", 7, 2, 1);
        edge.row(x, "beats(#, 0, 4)", 2, 0, 0, 1, 1);
        edge.row(x, "beats(#, 4, 0)", 2, 1, 1, 0, 0);
        edge.row(x, "winner(#)", 2, 4, 4, 0, 0);
        edge.row(x, "best(#, false)", 2, 4, 4, 0, 0);
        edge.row(x, "best(#, true)", 2, 0, 0, 4, 4);
        edge.row(x, "say(#)", 2, 128, 128, 64, 64);
        edge.row(x, "turned(#)", 1, 1, 3, 3, -1);
        // the last that is KNOWN is the one ahead of a void one, and 0 is a MARK as any
        x.annul(3);
        x.annul(4);
        edge.row(x, "last(0, 0, false, #)", 8, 90, 10, 10);
        edge.row(x, "last(0, 0, true, #)", 8, 95, 95, 70);
        x.mark(0, 0, 0, 0, false);
        x.mark(0, 0, 0, 0, true);
        edge.row(x, "last(0, 0, false, #)", 10, 10, 0, 0);
        edge.row(x, "last(0, 0, true, #)", 10, 70, 70, 0);
        edge.row(x, "beats(#, 4, 0)", 10, 1, 1);
        edge.row(x, "knowing(#, 0)", 10, 1, 1, 1);
        BlindFiddles y = Due.told(ROOM);
        blind(y, 0, 10, 20, 30, -1, 40, 50, 25);
        y.mark(0, 0, 100, 0, true);
        y.mark(7, 0, 100, 0, false);
        y.mark(0, 0, 35, 0, false);
        // the least old one is 10, then 20, and the greatest new one 50
        edge.row(y, "small(#)", 6, 41, 41, 41, 31);
    }

    private static void mean() {
        Edge edge = Edge.term("A FIDDLE's MEAN: of the LAST blind MARKS of players: sum S by how many N (hearers' MEAN "
                + "likewise, of hearers).", 20, 26, 27, 30, 35, 36, 38, 39, 43, 44);
        BlindFiddles x = Due.told(ROOM);
        x.mark(0, 0, 10, 0, false);
        x.mark(1, 0, 20, 0, false);
        x.mark(2, 0, 45, 0, false);
        x.mark(0, 4, 30, 0, false);
        x.mark(1, 4, 21, 0, false);
        x.mark(7, 0, 50, 0, false);
        x.mark(8, 0, 60, 0, false);
        x.mark(7, 4, 54, 0, false);
        // neither seen ones nor those of the others count
        x.mark(3, 0, 100, 0, true);
        x.mark(9, 4, 100, 0, true);
        x.mark(7, 5, 100, 0, false);
        x.mark(4, 6, 100, 0, true);
        edge.row(x, "mean(0, false, 12, #)", 0, 75, 3);
        edge.row(x, "mean(4, false, 12, #)", 0, 51, 2);
        edge.row(x, "mean(0, true, 12, #)", 0, 110, 2);
        edge.row(x, "mean(4, true, 12, #)", 0, 54, 1);
        edge.row(x, "mean(5, false, 12, #)", 0, 0, 0);
        edge.row(x, "mean(5, true, 12, #)", 0, 100, 1);
        edge.row(x, "mean(6, false, 12, #)", 0, 0, 0);
        edge.row(x, "mean(6, true, 12, #)", 0, 0, 0);
        // 25 and 25.5 by 6; 55 and 54
        edge.row(x, "kinds(12, #)", 0, 1, 1, 6, -3);
        edge.due(x, "kindWays(12, true)", 2);
        edge.row(x, "near(12, #)", 0, 2, 0, 1);
        edge.due(x, "nearWays(12)", 2);
        edge.due(x, "best(12, false)", 4);
        edge.due(x, "best(12, true)", 0);
        edge.due(x, "winner(12)", 4);
        edge.due(x, "say(12)", 128);
        // e wins with FACT 3, by 30 to 10; FACTS 8 to 11 bring no MEAN
        edge.row(x, "turned(#)", 0, 0, 3, 3, 3, -1);
        // a MEAN of 0 is a MEAN
        BlindFiddles y = Due.told(ROOM);
        y.mark(0, 4, 0, 0, false);
        y.mark(7, 4, 0, 0, false);
        edge.row(y, "mean(4, false, 2, #)", 0, 0, 1);
        edge.row(y, "mean(4, true, 2, #)", 0, 0, 1);
        edge.due(y, "kinds(2, 1)", 1);
        edge.due(y, "near(2, 0)", 1);
        edge.due(y, "winner(2)", 4);
        edge.due(y, "best(2, true)", 4);
        edge.due(y, "say(2)", 128);
        // f: 50 alone, then 75 with 100: 10 and x above it
        BlindFiddles z = Due.told(ROOM);
        blind(z, 0, 10, 20, 30, -1, 40, 50, 25);
        z.mark(7, 5, 100, 0, false);
        z.mark(1, 5, 100, 0, true);
        z.mark(1, 5, 100, 0, false);
        edge.row(z, "small(#)", 6, 41, 41, 41, 66);
    }

    /** A PERSON and a FIDDLE behind those of the little text, and what they would change. */
    private static final String MANY = "fiddle a old 1 1 1;fiddle b new 1 1 1;fiddle c old 1 1 1;fiddle d new 1 1 1;"
            + "player p 1 1 1 1;hearer h 1 1 1 1;player q 1 1 1 1;hearer g 1 1 1 1;";
    private static final String FEW = "fiddle a old 1 1 1;fiddle b new 1 1 1;player p 1 1 1 1;hearer h 1 1 1 1;";

    private static void thoseNotThere() {
        Edge edge = Edge.term("(FACTS stay; those of FIDDLES or PEOPLE that are not there count nowhere but among "
                + "FACTS.)", 4, 12, 15, 16, 17, 18, 19, 20, 21, 22, 23, 24, 25, 26, 27, 28, 29, 30, 31, 32, 33, 34, 35,
                36, 37, 38, 39, 43, 44, 45);
        BlindFiddles x = Due.told(MANY);
        x.mark(0, 0, 50, 0, false);
        x.mark(0, 1, 30, 1, false);
        x.mark(0, 0, 60, 1, false);
        x.mark(0, 1, 70, 1, true);
        x.mark(1, 0, 20, 0, false);
        x.mark(1, 1, 10, 0, false);
        x.guess(0, 0, true);
        x.mark(2, 0, 10, 0, false);
        x.mark(2, 0, 90, 0, false);
        x.mark(2, 1, 100, 0, false);
        x.mark(2, 0, 5, 0, true);
        x.guess(2, 1, true);
        x.mark(0, 2, 100, 1, false);
        x.mark(0, 2, 99, 1, false);
        x.mark(0, 2, 1, 1, true);
        x.mark(1, 2, 0, 0, false);
        x.guess(1, 2, false);
        x.guess(0, 3, true);
        x.mark(0, 3, 100, 2, false);
        for (int round = 0; round < 2; round++) {
            allThere(edge, x);
            edge.tell(x, FEW);
            fewThere(edge, x);
            edge.tell(x, MANY);
        }
        // there is room for 80 in all; a VOID of one that is not there is one as any
        edge.tell(x, FEW + "bow w 0 0 0;law l=7;plan x{sit p with w seen:a;}");
        edge.due(x, "annul(18)", 19);
        edge.due(x, "mark(0, 0, 60, 1, false)", 20);
        edge.due(x, "guess(0, 0, true)", 21);
        for (int i = 22; i < 80; i++) {
            edge.due(x, "annul(0)", i);
        }
        edge.due(x, "run(0, 0, 0, 7)", -1);
        edge.due(x, "mark(0, 0, 60, 1, false)", -1);
        edge.due(x, "guess(0, 0, true)", -1);
        edge.tell(x, MANY);
        edge.row(x, "winner(#)", 19, 3, 2);
        edge.row(x, "turned(#)", 18, 18, 19);
        gonePerson(edge);
    }

    private static void allThere(Edge edge, BlindFiddles x) {
        edge.due(x, "last(2, 0, false, 19)", 90);
        edge.row(x, "mean(0, false, 19, #)", 0, 150, 2);
        edge.row(x, "guesses(19, #)", 0, 4, 1, 3, 2, 1);
        edge.due(x, "coin(19, true)", 15);
        edge.due(x, "coin(19, false)", 16);
        edge.due(x, "table(19, true)", 4);
        edge.due(x, "table(19, false)", 4);
        edge.row(x, "steady(19, #)", 0, 3, 91);
        edge.due(x, "steadyWays(19)", 2);
        edge.row(x, "kinds(19, #)", 0, 2, 2, 2, 36);
        edge.due(x, "kindWays(19, true)", 3);
        edge.due(x, "kindWays(19, false)", 6);
        edge.row(x, "flips(19, #)", 0, 2, 48);
        edge.due(x, "flipWays(19)", 2);
        edge.row(x, "knowing(19, #)", 0, 3, -183, 40);
        edge.due(x, "knowingWays(19)", 7);
        edge.row(x, "spot(19, 0, #)", 0, 250, 4);
        edge.row(x, "spot(19, 1, #)", 0, 289, 4);
        edge.due(x, "right(19, 0)", -1250 - 1225 - 5250 + 2750);
        edge.row(x, "near(19, #)", 0, 3, 1, 2);
        edge.due(x, "nearWays(19)", 5);
        edge.due(x, "beats(19, 1, 0)", 1);
        edge.due(x, "winner(19)", 3);
        edge.due(x, "best(19, false)", 3);
        edge.due(x, "say(19)", 128);
        edge.due(x, "turned(18)", 18);
    }

    private static void fewThere(Edge edge, BlindFiddles x) {
        edge.due(x, "count(5)", 19);
        edge.row(x, "fact(8, #)", 0, 0, 2, 0, 90, 0, 0);
        edge.row(x, "fact(17, #)", 0, 1, 0, 3, 1, -1, -1);
        edge.due(x, "last(2, 0, false, 19)", -1);
        edge.due(x, "last(0, 2, false, 19)", -1);
        edge.due(x, "last(0, 0, false, 19)", 60);
        edge.row(x, "mean(0, false, 19, #)", 0, 60, 1);
        edge.row(x, "mean(1, false, 19, #)", 0, 30, 1);
        edge.row(x, "guesses(19, #)", 0, 1, 1, 1, 1, 1);
        edge.due(x, "coin(19, true)", 1);
        edge.due(x, "coin(19, false)", 2);
        edge.due(x, "table(19, true)", 1);
        edge.due(x, "table(19, false)", 1);
        edge.row(x, "steady(19, #)", 0, 1, 10);
        edge.due(x, "steadyWays(19)", 1);
        edge.row(x, "kinds(19, #)", 0, 1, 1, 1, 30);
        edge.due(x, "kindWays(19, true)", 1);
        edge.due(x, "kindWays(19, false)", 2);
        edge.row(x, "flips(19, #)", 0, 1, 30);
        edge.due(x, "flipWays(19)", 1);
        edge.due(x, "small(19)", -2);
        edge.row(x, "knowing(19, #)", 0, 1, 0, 40);
        edge.due(x, "knowingWays(19)", 1);
        edge.row(x, "spot(19, 0, #)", 0, 50, 1);
        edge.row(x, "spot(19, 1, #)", 0, 90, 2);
        edge.due(x, "right(19, 0)", 1500);
        edge.due(x, "right(19, 1)", -1500);
        edge.due(x, "right(19, 2)", BAD);
        edge.row(x, "near(19, #)", 0, 2, 1, 0);
        edge.due(x, "nearWays(19)", 1);
        edge.due(x, "beats(19, 1, 0)", 0);
        edge.due(x, "beats(19, 0, 1)", 1);
        edge.due(x, "beats(19, 2, 0)", -1);
        edge.due(x, "winner(19)", 0);
        edge.due(x, "best(19, false)", 0);
        edge.due(x, "best(19, true)", 1);
        edge.due(x, "say(19)", 64);
        edge.due(x, "turned(7)", -1);
    }

    /** HOW SMALL without one new FIDDLE, or without the player; a hearer in the place of a player. */
    private static void gonePerson(Edge edge) {
        BlindFiddles x = Due.told(ROOM);
        blind(x, 0, 10, 20, 30, -1, 40, 50, 25);
        x.mark(1, 5, 100, 0, false);
        edge.due(x, "small(7)", 66);
        String fiddles = ROOM.substring(0, ROOM.indexOf("player"));
        edge.tell(x, fiddles + "player i 1 1 1 1;");
        edge.due(x, "small(7)", 41);
        edge.tell(x, fiddles + "player i 1 1 1 1;hearer j 1 1 1 1;");
        edge.due(x, "small(7)", 41);
        edge.tell(x, fiddles.substring(0, fiddles.indexOf("fiddle g")) + "player i 1 1 1 1;");
        edge.due(x, "small(7)", -2);
        edge.tell(x, fiddles);
        edge.due(x, "small(7)", -2);
        edge.due(x, "winner(7)", -2);
        edge.tell(x, "player i 1 1 1 1;player j 1 1 1 1;");
        edge.due(x, "kinds(7, 1)", 0);
        edge.due(x, "spot(7, 0, 1)", 0);
        edge.tell(x, ROOM);
        edge.due(x, "small(7)", 66);
    }

    private static void markNumber() {
        Edge edge = Edge.promise(15, "A MARK: its number.");
        BlindFiddles x = Due.told(ROOM);
        edge.due(x, "mark(0, 0, 50, 0, false)", 0);
        edge.due(x, "mark(9, 7, 50, 0, true)", 1);
        x.guess(0, 0, true);
        x.annul(0);
        edge.due(x, "mark(0, 0, 50, 0, false)", 4);
        for (int i = 5; i < 80; i++) {
            edge.due(x, "mark(0, 0, 50, 0, true)", i);
        }
    }

    private static void markRefused() {
        Edge edge = Edge.promise(15, "NONE, and nothing happens: 80 FACTS are there, no such ones.");
        BlindFiddles x = Due.told(ROOM);
        edge.each(x, "mark(#, 0, 50, 0, false)", -1, -1, 10, 11, MIN, MAX);
        edge.each(x, "mark(0, #, 50, 0, false)", -1, -1, 8, 9, MIN, MAX);
        edge.each(x, "mark(0, 0, #, 0, false)", -1, -1, 101, MIN, MAX);
        edge.each(x, "mark(0, 0, 50, #, false)", -1, -1, 10, MIN, MAX);
        edge.due(x, "count(5)", 0);
        edge.due(x, "mean(0, false, 0, 1)", 0);
        for (int i = 0; i < 80; i++) {
            x.mark(0, 0, 50, 0, false);
        }
        edge.due(x, "mark(0, 0, 60, 0, false)", -1);
        edge.due(x, "mark(1, 1, 60, 5, true)", -1);
        edge.due(x, "count(5)", 80);
        edge.due(x, "last(0, 0, false, 80)", 50);
        edge.due(x, "last(1, 1, true, 80)", -2);
        edge.due(Due.told("fiddle a old 1 1 1;"), "mark(0, 0, 50, 0, false)", -1);
        edge.due(Due.told("player p 1 1 1 1;"), "mark(0, 0, 50, 0, false)", -1);
    }

    private static void guessRefused() {
        Edge edge = Edge.promise(16, "A GUESS: its number; NONE likewise.");
        BlindFiddles x = Due.told(ROOM);
        edge.each(x, "guess(#, 0, true)", -1, -1, 10, 11, MIN, MAX);
        edge.each(x, "guess(0, #, false)", -1, -1, 8, 9, MIN, MAX);
        edge.due(x, "count(5)", 0);
        edge.due(x, "guesses(0, 0)", 0);
        edge.due(x, "guess(0, 0, true)", 0);
        edge.due(x, "guess(9, 7, false)", 1);
        for (int i = 2; i < 80; i++) {
            edge.due(x, "guess(0, 0, true)", i);
        }
        edge.due(x, "guess(0, 0, true)", -1);
        edge.due(x, "guess(0, 0, false)", -1);
        edge.due(x, "count(5)", 80);
        edge.due(x, "guesses(80, 0)", 80);
        edge.due(Due.told("fiddle a old 1 1 1;"), "guess(0, 0, true)", -1);
        edge.due(Due.told("player p 1 1 1 1;"), "guess(0, 0, true)", -1);
    }

    private static void voidNumber() {
        Edge edge = Edge.promise(17, "A VOID: its number.");
        BlindFiddles x = Due.told(ROOM);
        x.mark(0, 0, 50, 0, false);
        x.guess(0, 0, true);
        edge.due(x, "annul(0)", 2);
        edge.due(x, "annul(1)", 3);
        x.mark(0, 0, 50, 0, true);
        edge.due(x, "annul(4)", 5);
        edge.due(x, "last(0, 0, false, 6)", -2);
        // one that is void already is a FACT still, and no VOID
        edge.due(x, "annul(0)", 6);
        for (int i = 7; i < 80; i++) {
            edge.due(x, "annul(1)", i);
        }
    }

    private static void voidRefused() {
        Edge edge = Edge.promise(17, "NONE, and nothing happens: 80 are there, no such FACT, a VOID.");
        BlindFiddles x = Due.told(ROOM);
        edge.each(x, "annul(#)", -1, 0, 1, -1, MIN, MAX);
        edge.due(x, "count(5)", 0);
        x.mark(0, 0, 50, 0, false);
        edge.each(x, "annul(#)", -1, 1, 2, 79, 80, -1, MIN, MAX);
        edge.due(x, "count(5)", 1);
        edge.due(x, "annul(0)", 1);
        edge.each(x, "annul(#)", -1, 1, 2);
        edge.due(x, "count(5)", 2);
        for (int i = 2; i < 79; i++) {
            x.guess(0, 0, true);
        }
        x.mark(0, 0, 60, 0, false);
        edge.each(x, "annul(#)", -1, 0, 1, 2, 79, 80);
        edge.due(x, "count(5)", 80);
        edge.due(x, "last(0, 0, false, 80)", 60);
        edge.due(x, "guesses(80, 0)", 77);
        edge.due(x, "fact(1, 1)", 0);
    }

    private static void ofFact() {
        Edge edge = Edge.promise(18, "Of a FACT: what 0: 0 a MARK, 1 a GUESS, 2 a VOID, 1 the PERSON (a VOID's "
                + "FACT), 2 the FIDDLE, 3 the value (a GUESS: 1 old, 0 new), 4 the spot of a MARK, 5 of a MARK: 1 "
                + "seen, else 0.");
        BlindFiddles x = Due.told(ROOM);
        x.mark(9, 7, 100, 9, true);
        x.mark(0, 0, 0, 0, false);
        x.guess(8, 6, true);
        x.guess(0, 0, false);
        x.annul(3);
        x.annul(0);
        edge.row(x, "fact(0, #)", 0, 0, 9, 7, 100, 9, 1);
        edge.row(x, "fact(1, #)", 0, 0, 0, 0, 0, 0, 0);
        edge.row(x, "fact(2, #)", 0, 1, 8, 6, 1);
        edge.row(x, "fact(3, #)", 0, 1, 0, 0, 0);
        edge.row(x, "fact(4, #)", 0, 2, 3);
        edge.row(x, "fact(5, #)", 0, 2, 0);
    }

    private static void ofFactOthers() {
        Edge edge = Edge.promise(18, "NONE for others, for what it has not.");
        BlindFiddles x = Due.told(ROOM);
        edge.each(x, "fact(#, 0)", -1, -1, 0, 1, MIN, MAX);
        x.mark(9, 7, 100, 9, true);
        x.guess(8, 6, true);
        x.annul(0);
        for (int what = 0; what <= 5; what++) {
            edge.each(x, "fact(#, " + what + ")", -1, -1, 3, 79, 80, MIN, MAX);
        }
        for (int fact = 0; fact <= 2; fact++) {
            edge.each(x, "fact(" + fact + ", #)", -1, -1, 6, 10, MIN, MAX);
        }
        edge.each(x, "fact(1, #)", -1, 4, 5);
        edge.each(x, "fact(2, #)", -1, 2, 3, 4, 5);
        for (int i = 3; i < 80; i++) {
            x.annul(0);
        }
        edge.due(x, "fact(79, 1)", 0);
        edge.each(x, "fact(#, 0)", -1, -1, 80, 81);
    }

    private static void lastRefused() {
        Edge edge = Edge.promise(19, "LAST; -2: none; NONE: no such ones, n.");
        BlindFiddles x = Due.told(ROOM);
        edge.due(x, "last(0, 0, false, 0)", -2);
        x.mark(0, 0, 50, 0, false);
        x.mark(9, 7, 60, 0, true);
        edge.row(x, "last(0, 0, false, #)", 0, -2, 50, 50);
        edge.row(x, "last(9, 7, true, #)", 0, -2, -2, 60);
        edge.due(x, "last(0, 0, true, 2)", -2);
        edge.due(x, "last(9, 7, false, 2)", -2);
        edge.due(x, "last(9, 0, false, 2)", -2);
        edge.due(x, "last(0, 7, true, 2)", -2);
        for (String seen : new String[] {"false", "true"}) {
            edge.each(x, "last(#, 0, " + seen + ", 2)", -1, -1, 10, MIN, MAX);
            edge.each(x, "last(0, #, " + seen + ", 2)", -1, -1, 8, MIN, MAX);
            edge.noSuchN(x, "last(0, 0, " + seen + ", #)", -1);
        }
        for (int i = 2; i < 80; i++) {
            x.mark(0, 0, i, 0, false);
        }
        edge.row(x, "last(0, 0, false, #)", 79, 78, 79, -1);
    }

    private static void meanRefused() {
        Edge edge = Edge.promise(20, "A FIDDLE's MEAN (far: hearers'): what 0 S, 1 N; NONE: no such ones, n.");
        BlindFiddles x = Due.told(ROOM);
        edge.row(x, "mean(0, false, 0, #)", 0, 0, 0);
        for (int player = 0; player < 7; player++) {
            x.mark(player, 7, 100, 0, false);
        }
        for (int hearer = 7; hearer < 10; hearer++) {
            x.mark(hearer, 7, 99, 0, false);
        }
        edge.row(x, "mean(7, false, 10, #)", -1, -1, 700, 7, -1);
        edge.row(x, "mean(7, true, 10, #)", -1, -1, 297, 3, -1);
        edge.row(x, "mean(0, true, 10, #)", -1, -1, 0, 0, -1);
        edge.row(x, "mean(7, true, #, 1)", 6, 0, 0, 1, 2, 3, -1);
        for (String far : new String[] {"false", "true"}) {
            edge.each(x, "mean(#, " + far + ", 10, 0)", -1, -1, 8, MIN, MAX);
            edge.each(x, "mean(7, " + far + ", 10, #)", -1, -1, 2, MIN, MAX);
            edge.noSuchN(x, "mean(7, " + far + ", #, 0)", -1);
            edge.noSuchN(x, "mean(7, " + far + ", #, 1)", -1);
        }
    }

    private static void guessesRefused() {
        Edge edge = Edge.promise(21, "GUESSES: what 0 m, 1 r, 2 u, 3 t, 4 a; NONE: no such n, what.");
        BlindFiddles x = Due.told(ROOM);
        edge.row(x, "guesses(0, #)", -1, -1, 0, 0, 0, 0, 0, -1);
        x.guess(0, 0, true);
        x.guess(1, 1, true);
        x.guess(7, 2, true);
        x.guess(8, 3, true);
        x.guess(0, 0, false);
        x.guess(0, 4, true);
        x.guess(0, 5, true);
        x.guess(9, 6, false);
        // 8: right four old and a new one; said old six; of old ones five; both four
        edge.row(x, "guesses(8, #)", -1, -1, 8, 5, 6, 5, 4, -1);
        edge.row(x, "guesses(#, 0)", 0, 0, 1, 2, 3, 4, 5, 6, 7, 8, -1);
        edge.each(x, "guesses(8, #)", -1, 5, MIN, MAX);
        for (int what = 0; what <= 4; what++) {
            edge.noSuchN(x, "guesses(#, " + what + ")", -1);
        }
        // neither a MARK nor a VOID is a GUESS; one gone is none
        x.mark(0, 0, 1, 0, false);
        edge.row(x, "guesses(#, 0)", 8, 8, 8);
        x.annul(0);
        edge.row(x, "guesses(10, #)", -1, -1, 7, 4, 5, 4, 3, -1);
        for (int i = 10; i < 80; i++) {
            x.guess(0, 0, true);
        }
        edge.row(x, "guesses(80, #)", 0, 77, 74, 75, 74, 73);
    }
}
