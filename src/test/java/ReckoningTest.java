/** Promises 22 to 39: what is reckoned from the FACTS. */
public final class ReckoningTest {
    private static final int MIN = Integer.MIN_VALUE;
    private static final int MAX = Integer.MAX_VALUE;
    private static final int BAD = -1000000000;

    /** FIDDLES 0 to 3 are old, 4 to 7 new; players are 0 to 6, hearers 7 to 9. */
    private static final String TEXT = "fiddle a old 1 1 1;fiddle b old 1 1 1;fiddle c old 1 1 1;fiddle d old 1 1 1;"
            + "fiddle e new 1 1 1;fiddle f new 1 1 1;fiddle g new 1 1 1;fiddle h new 1 1 1;"
            + "player i 1 1 1 1;player j 1 1 1 1;player k 1 1 1 1;player l 1 1 1 1;player m 1 1 1 1;player n 1 1 1 1;"
            + "player o 1 1 1 1;hearer p 1 1 1 1;hearer q 1 1 1 1;hearer r 1 1 1 1;";

    public static void main(String[] args) {
        coins();
        manyCoins();
        tables();
        steadies();
        steadyEdges();
        kinds();
        kindEdges();
        flips();
        flipEdges();
        smalls();
        knowings();
        knowingEdges();
        spots();
        rights();
        nears();
        nearEdges();
        beats();
        winners();
        bests();
        Due.end();
    }

    private static int at(BlindFiddles x) {
        return x.count(5);
    }

    private static void blind(BlindFiddles x, int person, int... values) {
        for (int fiddle = 0; fiddle < values.length; fiddle++) {
            if (values[fiddle] >= 0) {
                x.mark(person, fiddle, values[fiddle], 0, false);
            }
        }
    }

    private static void coins() {
        BlindFiddles x = Due.told(TEXT);
        Due.due(22, "none", x.coin(0, true), 1);
        Due.due(22, "all of none", x.coin(0, false), 1);
        boolean[] right = {true, true, false, true, true, false};
        long[] ways = {1, 1, 4, 5, 6, 22};
        for (int i = 0; i < right.length; i++) {
            x.guess(i % 2 == 0 ? 0 : 7, i, right[i] == i < 4);
            Due.due(22, "coin(" + (i + 1) + ", true)", x.coin(i + 1, true), ways[i]);
            Due.due(22, "coin(" + (i + 1) + ", false)", x.coin(i + 1, false), 2L << i);
        }
        Due.due(22, "n 7", x.coin(7, true), -1);
        Due.due(22, "n -1", x.coin(-1, false), -1);
        Due.due(22, "n MIN", x.coin(MIN, false), -1);
        Due.due(22, "n MAX", x.coin(MAX, true), -1);
    }

    private static void manyCoins() {
        BlindFiddles x = Due.told(TEXT);
        for (int i = 0; i < 61; i++) {
            x.guess(0, 0, i % 2 == 0);
        }
        // of 60, 30 are right: half of the rows, and half of those with just 30 more
        Due.due(22, "60, 30 right", x.coin(60, true), (1L << 59) + 118264581564861424L / 2);
        Due.due(22, "all of 60", x.coin(60, false), 1L << 60);
        Due.due(22, "61", x.coin(61, true), -2);
        Due.due(22, "all of 61", x.coin(61, false), -2);
        Due.due(22, "no such n", x.coin(62, false), -1);
        Due.due(23, "all of 60", x.table(60, false), 118264581564861424L);
        Due.due(23, "60", x.table(60, true), 118264581564861424L);
        Due.due(23, "61", x.table(61, true), -2);
        Due.due(23, "all of 61", x.table(61, false), -2);
        x.annul(60);
        Due.due(22, "60 again", x.coin(62, false), 1L << 60);
        Due.due(43, "say with 61 GUESSES", x.say(61), 0);
        BlindFiddles y = Due.told(TEXT);
        for (int i = 0; i < 61; i++) {
            y.guess(0, 0, true);
        }
        Due.due(22, "60, all right", y.coin(60, true), 1);
        Due.due(43, "say with 60", y.say(60), 1);
        Due.due(43, "say with 61", y.say(61), 0);
        BlindFiddles z = Due.told(TEXT);
        for (int i = 0; i < 60; i++) {
            z.guess(0, 0, false);
        }
        Due.due(22, "60, none right", z.coin(60, true), 1L << 60);
        Due.due(43, "say with none right", z.say(60), 0);
    }

    private static void tables() {
        BlindFiddles x = Due.told(TEXT);
        Due.due(23, "none", x.table(0, true), 1);
        Due.due(23, "all of none", x.table(0, false), 1);
        x.guess(0, 0, true);
        x.guess(0, 1, true);
        x.guess(7, 2, true);
        x.guess(0, 3, false);
        x.guess(0, 4, true);
        x.guess(0, 5, false);
        x.guess(8, 6, false);
        x.guess(0, 7, false);
        // the lady's cups: 8, 4 said old, 4 old, 3 both
        Due.due(23, "3 of 4", x.table(8, true), 16 + 1);
        Due.due(23, "all", x.table(8, false), 70);
        Due.due(23, "by 3", x.table(3, true), 1);
        // by 5: 4 of 5 said old, 4 old, 3 both: 3 or more
        Due.due(23, "by 5", x.table(5, true), 5);
        Due.due(23, "all by 5", x.table(5, false), 5);
        Due.due(23, "n 9", x.table(9, true), -1);
        Due.due(23, "n -1", x.table(-1, false), -1);
    }

    private static void steadies() {
        BlindFiddles x = Due.told(TEXT);
        x.mark(0, 0, 99, 0, false);
        x.mark(0, 0, 10, 0, false);
        x.mark(1, 3, 20, 0, false);
        x.mark(2, 5, 30, 0, false);
        Due.due(24, "one PAIR", x.steady(2, 0), 1);
        Due.due(24, "its OFF", x.steady(2, 1), 89);
        Due.due(25, "its ways", x.steadyWays(2), 1);
        x.mark(2, 5, 31, 0, false);
        x.mark(1, 3, 18, 0, false);
        x.mark(0, 0, 50, 0, true);
        x.mark(7, 0, 50, 0, false);
        x.mark(7, 0, 10, 0, false);
        x.mark(0, 0, 13, 0, false);
        // (10, 13), (20, 18), (30, 31): OFF 6; 13 and 18 the other way round: 8 + 7 + 1
        Due.due(24, "PAIRS", x.steady(10, 0), 3);
        Due.due(24, "OFF", x.steady(10, 1), 6);
        Due.due(25, "ways", x.steadyWays(10), 1);
        x.annul(9);
        Due.due(24, "OFF without the last", x.steady(11, 1), 89 + 2 + 1);
        // as 99 20 30, bs 10 18 31: sums 92, 10 31 18: 89+11+12, 18 10 31: 81+10+1 = 92, 18 31 10: 81+11+20,
        // 31 10 18: 68+10+12 = 90, 31 18 10: 68+2+20 = 90
        Due.due(25, "ways not above 92", x.steadyWays(11), 4);
        for (int i : new int[] {-1, 2, MIN, MAX}) {
            Due.due(24, "what " + i, x.steady(10, i), -1);
        }
        for (int n : new int[] {-1, 12, MIN, MAX}) {
            Due.due(24, "n " + n, x.steady(n, 0), -1);
            Due.due(25, "n " + n, x.steadyWays(n), -1);
        }
    }

    private static void steadyEdges() {
        BlindFiddles x = Due.told(TEXT);
        Due.due(24, "none", x.steady(0, 0), 0);
        Due.due(24, "OFF of none", x.steady(0, 1), 0);
        Due.due(25, "ways of none", x.steadyWays(0), 1);
        // eight PAIRS of one player: the eighth counts no more
        blind(x, 0, 50, 50, 50, 50, 50, 50, 50, 50);
        blind(x, 0, 51, 52, 53, 54, 55, 56, 57, 99);
        Due.due(24, "seven", x.steady(15, 0), 7);
        Due.due(24, "seven of eight", x.steady(16, 0), 7);
        Due.due(24, "OFF of seven", x.steady(16, 1), 28);
        Due.due(25, "all as alike", x.steadyWays(16), 5040);
        Due.due(43, "say", x.say(16), 128);
        BlindFiddles y = Due.told(TEXT);
        blind(y, 0, 10, 20, 30, 40);
        blind(y, 0, 10, 20, 30, 40);
        Due.due(25, "one of 6", y.steadyWays(7), 1);
        Due.due(43, "say of 6", y.say(7), 64);
        Due.due(25, "one of 24", y.steadyWays(8), 1);
        Due.due(43, "say of 24", y.say(8), 16 + 64);
        y.mark(0, 0, 20, 0, false);
        y.mark(0, 0, 10, 0, false);
        Due.due(25, "two of 24", y.steadyWays(10), 2);
        Due.due(43, "say of two of 24", y.say(10), 64);
        Due.due(25, "one of 24, asked again", y.steadyWays(8), 1);
        // by the player, then the FIDDLE, not by when they came
        BlindFiddles z = Due.told(TEXT);
        for (int fiddle = 7; fiddle >= 0; fiddle--) {
            z.mark(1, fiddle, 10 * fiddle, 0, false);
            z.mark(1, fiddle, 10 * fiddle + 1, 0, false);
        }
        Due.due(24, "OFF of FIDDLES 0 to 6", z.steady(16, 1), 7);
        z.mark(0, 7, 0, 0, false);
        z.mark(0, 7, 90, 0, false);
        Due.due(24, "the first player's comes first", z.steady(18, 1), 96);
    }

    private static void kinds() {
        BlindFiddles x = Due.told(TEXT);
        // a: 10, 20, 40 (3); b: 30; e: 20, 15 (2); f: 0
        blind(x, 0, 10, 30, -1, -1, 20, 0);
        blind(x, 1, 20, -1, -1, -1, 15);
        blind(x, 2, 40);
        x.mark(7, 2, 99, 0, false);
        x.mark(0, 3, 99, 0, true);
        int n = at(x);
        Due.due(26, "o", x.kinds(n, 0), 2);
        Due.due(26, "w", x.kinds(n, 1), 2);
        Due.due(26, "L", x.kinds(n, 2), 6);
        // V: a 140, b 180, e 105, f 0
        Due.due(26, "D", x.kinds(n, 3), 2 * 320 - 2 * 105);
        Due.due(27, "ways", x.kindWays(n, true), 1);
        Due.due(27, "all", x.kindWays(n, false), 6);
        Due.due(27, "ways by 1", x.kindWays(1, false), 1);
        Due.due(27, "ways by 3", x.kindWays(3, false), 3);
        Due.due(26, "o by 1", x.kinds(1, 0), 1);
        Due.due(26, "L by 1", x.kinds(1, 2), 1);
        x.mark(2, 4, 95, 0, false);
        x.mark(3, 5, 80, 0, false);
        x.mark(3, 7, 10, 0, false);
        n = at(x);
        // V: a 140, b 180, e 130 / 3: 260, f 80 / 2: 240, h 10: 60
        Due.due(26, "w", x.kinds(n, 1), 3);
        Due.due(26, "D", x.kinds(n, 3), 3 * 320 - 2 * 560);
        // 320 or more of two: ab, ae, af, be, bf, ef, eh (320)
        Due.due(27, "ways", x.kindWays(n, true), 7);
        Due.due(27, "all", x.kindWays(n, false), 10);
        for (int i : new int[] {-1, 4, MIN, MAX}) {
            Due.due(26, "what " + i, x.kinds(n, i), BAD);
        }
        for (int i : new int[] {-1, n + 1, MIN, MAX}) {
            Due.due(26, "n " + i, x.kinds(i, 0), BAD);
            Due.due(27, "n " + i, x.kindWays(i, true), -1);
            Due.due(27, "n " + i, x.kindWays(i, false), -1);
        }
    }

    private static void kindEdges() {
        BlindFiddles x = Due.told(TEXT);
        for (int what = 0; what < 4; what++) {
            Due.due(26, "none, what " + what, x.kinds(0, what), what == 2 ? 1 : 0);
        }
        Due.due(27, "none", x.kindWays(0, true), 1);
        Due.due(27, "all of none", x.kindWays(0, false), 1);
        blind(x, 0, 10, 20, 30, 40);
        Due.due(26, "D without new ones", x.kinds(4, 3), 0);
        Due.due(27, "without new ones", x.kindWays(4, true), 1);
        Due.due(27, "all without new ones", x.kindWays(4, false), 1);
        blind(x, 0, -1, -1, -1, -1, 10, 20, 30, 40);
        Due.due(26, "D of alike ones", x.kinds(8, 3), 0);
        Due.due(27, "all of 8", x.kindWays(8, false), 70);
        // fours of 1 1 2 2 3 3 4 4 with 10 or more: half of 70, and half of those with just 10 more
        Due.due(27, "ways of 8", x.kindWays(8, true), 44);
        BlindFiddles y = Due.told(TEXT);
        blind(y, 0, -1, -1, -1, -1, 1, 2, 3);
        Due.due(26, "D without old ones", y.kinds(3, 3), 0);
        Due.due(27, "without old ones", y.kindWays(3, true), 1);
        // N from 1 to 7: L is 420
        BlindFiddles z = Due.told(TEXT);
        for (int player = 0; player < 7; player++) {
            for (int fiddle = 0; fiddle <= player; fiddle++) {
                z.mark(player, fiddle, 100, 0, false);
            }
        }
        Due.due(26, "L", z.kinds(28, 2), 420);
        Due.due(26, "D of alike MEANS", z.kinds(28, 3), 0);
        Due.due(27, "all alike", z.kindWays(28, true), 35);
    }

    private static void flips() {
        BlindFiddles x = Due.told(TEXT);
        // i: old 10 + 20, new 5: 30 - 10 = 20; j: old 7, new 8 + 9: 14 - 17 = -3; k: no new ones; l: 50 - 40
        blind(x, 0, 10, 20, -1, -1, 5);
        blind(x, 1, 7, -1, -1, -1, -1, 8, 9);
        blind(x, 2, 90, 90);
        blind(x, 4, -1, -1, -1, -1, 90, 90);
        blind(x, 3, -1, -1, -1, 50, -1, -1, -1, 40);
        x.mark(2, 4, 3, 0, true);
        blind(x, 7, 100, 0, 0, 0, 0, 0, 0, 0);
        int n = at(x);
        Due.due(28, "players", x.flips(n, 0), 3);
        Due.due(28, "sum", x.flips(n, 1), 27);
        // those turned have a sum not above 0: none, -3
        Due.due(29, "ways", x.flipWays(n), 2);
        x.mark(0, 4, 99, 0, false);
        // 30 - 198 = -168
        Due.due(28, "sum", x.flips(n + 1, 1), -168 - 3 + 10);
        // all but {10} and {-3, 10}
        Due.due(29, "ways", x.flipWays(n + 1), 6);
        for (int i : new int[] {-1, 2, MIN, MAX}) {
            Due.due(28, "what " + i, x.flips(n, i), BAD);
        }
        for (int i : new int[] {-1, n + 2, MIN, MAX}) {
            Due.due(28, "n " + i, x.flips(i, 0), BAD);
            Due.due(29, "n " + i, x.flipWays(i), -1);
        }
    }

    private static void flipEdges() {
        BlindFiddles x = Due.told(TEXT);
        Due.due(28, "none", x.flips(0, 0), 0);
        Due.due(28, "sum of none", x.flips(0, 1), 0);
        Due.due(29, "none", x.flipWays(0), 1);
        for (int player = 0; player < 7; player++) {
            x.mark(player, 0, 60, 0, false);
            x.mark(player, 4, player < 5 ? 50 : 60, 0, false);
        }
        Due.due(29, "one of 16", x.flipWays(8), 1);
        Due.due(43, "say of 16", x.say(8), 64);
        Due.due(29, "one of 32", x.flipWays(10), 1);
        Due.due(43, "say of 32", x.say(10), 4 + 64);
        // two that are 0 may be turned or not
        Due.due(29, "four of 128", x.flipWays(14), 4);
        Due.due(28, "seven", x.flips(14, 0), 7);
        Due.due(43, "say of 4 of 128", x.say(14), 4 + 64);
    }

    private static void smalls() {
        BlindFiddles x = Due.told(TEXT);
        Due.due(30, "none", x.small(0), -2);
        // V: old 10 20 30, new 40 50 25
        blind(x, 0, 10, 20, 30, -1, 40, 50, 25);
        Due.due(30, "too few", x.small(5), -2);
        // with x more all old ones are above all new ones just if 10 + x is above 50
        Due.due(30, "of 20", x.small(6), 41);
        blind(x, 1, -1, -1, -1, -1, -1, 100);
        // f is (50 + 100) / 2 = 75
        Due.due(30, "of 20 with L 2", x.small(7), 66);
        blind(x, 1, -1, -1, -1, -1, -1, 0);
        // f is 25: 10 + x is above 40
        Due.due(30, "of 20, the LAST", x.small(8), 31);
        for (int n : new int[] {-1, 9, MIN, MAX}) {
            Due.due(30, "n " + n, x.small(n), -1);
        }
        BlindFiddles y = Due.told(TEXT);
        blind(y, 0, 0, 50, 60, -1, 100, 90, 80);
        // 0 and 100 more are alike to the greatest new one: there is none; with 1 they part
        Due.due(30, "not even with 100", y.small(6), -2);
        y.mark(0, 0, 1, 0, false);
        Due.due(30, "with 100", y.small(7), 100);
        BlindFiddles z = Due.told(TEXT);
        blind(z, 0, 99, 98, 97, -1, 96, 95, 94);
        Due.due(30, "with 0", z.small(6), 0);
        z.mark(0, 3, 0, 0, false);
        // of 35 one way is enough: 0 + x above 96
        Due.due(30, "of 35", z.small(7), 97);
        z.mark(0, 7, 0, 0, false);
        // of 70 three ways are: besides the true one those with 0 + x changed for 96 or 95
        Due.due(30, "of 70", z.small(8), 95);
    }

    private static void knowings() {
        BlindFiddles x = Due.told(TEXT);
        x.mark(0, 0, 10, 0, false);
        x.mark(0, 0, 30, 0, true);
        x.mark(0, 4, 50, 0, true);
        x.mark(0, 4, 90, 0, false);
        x.mark(1, 5, 20, 0, false);
        x.mark(1, 5, 25, 0, true);
        x.mark(1, 6, 25, 0, true);
        x.mark(2, 6, 25, 0, false);
        x.mark(7, 0, 0, 0, false);
        x.mark(7, 0, 100, 0, true);
        int n = at(x);
        x.mark(6, 7, 0, 0, false);
        x.mark(6, 7, 100, 0, true);
        Due.due(31, "PAIRS with the last player's", x.knowing(n + 2, 0), 4);
        Due.due(31, "new with the last player's", x.knowing(n + 2, 2), 65);
        x.annul(n);
        Due.due(31, "PAIRS without it", x.knowing(n + 3, 0), 3);
        Due.due(31, "PAIRS", x.knowing(n, 0), 3);
        Due.due(31, "old", x.knowing(n, 1), 20);
        Due.due(31, "new", x.knowing(n, 2), -35);
        // 20, -40, 5: turned ones not above 0: none, and all with -40
        Due.due(32, "ways", x.knowingWays(n), 5);
        x.mark(0, 0, 15, 0, false);
        Due.due(31, "of the LAST", x.knowing(n + 4, 1), 15);
        for (int i : new int[] {-1, 3, MIN, MAX}) {
            Due.due(31, "what " + i, x.knowing(n, i), BAD);
        }
        for (int i : new int[] {-1, n + 5, MIN, MAX}) {
            Due.due(31, "n " + i, x.knowing(i, 0), BAD);
            Due.due(32, "n " + i, x.knowingWays(i), -1);
        }
    }

    private static void knowingEdges() {
        BlindFiddles x = Due.told(TEXT);
        Due.due(31, "none", x.knowing(0, 0), 0);
        Due.due(32, "none", x.knowingWays(0), 1);
        // two players and eight FIDDLES each: the first twelve
        for (int pair = 0; pair < 16; pair++) {
            x.mark(pair / 8, pair % 8, 50, 0, false);
            x.mark(pair / 8, pair % 8, pair < 12 ? 51 : 0, 0, true);
            if (pair == 3) {
                Due.due(32, "one of 16", x.knowingWays(8), 1);
                Due.due(43, "say of 16", x.say(8), 0);
            }
            if (pair == 4) {
                Due.due(32, "one of 32", x.knowingWays(10), 1);
                Due.due(43, "say of 32", x.say(10), 8);
            }
        }
        Due.due(31, "twelve", x.knowing(32, 0), 12);
        Due.due(31, "old of twelve", x.knowing(32, 1), 8);
        Due.due(31, "new of twelve", x.knowing(32, 2), 4);
        Due.due(32, "one of 4096", x.knowingWays(32), 1);
        x.mark(0, 0, 51, 0, false);
        Due.due(32, "two of 4096", x.knowingWays(33), 2);
        x.mark(0, 1, 52, 0, false);
        // ten of 1, one of 0, one of -1: none, -1, -1 and a 1: 2 * (1 + 1 + 10)
        Due.due(32, "of 4096", x.knowingWays(34), 24);
    }

    private static void spots() {
        BlindFiddles x = Due.told(TEXT);
        x.mark(0, 0, 10, 0, false);
        x.mark(0, 0, 20, 0, false);
        x.mark(1, 5, 100, 9, false);
        x.mark(0, 0, 40, 0, true);
        x.mark(7, 0, 40, 0, false);
        Due.due(33, "sum", x.spot(5, 0, 0), 30);
        Due.due(33, "how many", x.spot(5, 0, 1), 2);
        Due.due(33, "sum by 1", x.spot(1, 0, 0), 10);
        Due.due(33, "sum of 9", x.spot(5, 9, 0), 100);
        Due.due(33, "how many of 9", x.spot(5, 9, 1), 1);
        Due.due(33, "none", x.spot(5, 5, 0), 0);
        Due.due(33, "how many of none", x.spot(5, 5, 1), 0);
        x.annul(0);
        Due.due(33, "sum without a VOID's", x.spot(6, 0, 0), 20);
        for (int i : new int[] {-1, 10, MIN, MAX}) {
            Due.due(33, "spot " + i, x.spot(5, i, 0), -1);
        }
        for (int i : new int[] {-1, 2, MIN, MAX}) {
            Due.due(33, "what " + i, x.spot(5, 0, i), -1);
        }
        for (int n : new int[] {-1, 7, MIN, MAX}) {
            Due.due(33, "n " + n, x.spot(n, 0, 0), -1);
        }
    }

    private static void rights() {
        BlindFiddles x = Due.told(TEXT);
        x.mark(0, 0, 10, 0, false);
        x.mark(0, 0, 21, 0, false);
        x.mark(1, 1, 100, 0, false);
        x.mark(1, 0, 7, 3, false);
        x.mark(1, 0, 90, 3, true);
        x.mark(7, 0, 90, 3, false);
        // spot 0: 131 of 3, 13100 / 3 is 4366; spot 3: 700
        Due.due(34, "FIDDLE 0", x.right(6, 0), 1000 + 2100 + 700 - 2 * 4366 - 700);
        Due.due(34, "FIDDLE 1", x.right(6, 1), 10000 - 4366);
        Due.due(34, "FIDDLE 2", x.right(6, 2), 0);
        Due.due(34, "by 2", x.right(2, 0), 0);
        x.annul(1);
        Due.due(34, "without a VOID's", x.right(7, 0), 1000 - 5500);
        for (int i : new int[] {-1, 8, MIN, MAX}) {
            Due.due(34, "fiddle " + i, x.right(6, i), BAD);
            Due.due(34, "n " + i, x.right(i, 0), BAD);
        }
    }

    private static void nears() {
        BlindFiddles x = Due.told(TEXT);
        // players: a 10, b (20 + 31) / 2, c 25, e 10; hearers: a 5, b 6, c 7, d 8
        blind(x, 0, 10, 20, 25, -1, 10);
        blind(x, 1, -1, 31);
        blind(x, 7, 5, 6, 7, 8);
        int n = at(x);
        Due.due(35, "FIDDLES", x.near(n, 0), 3);
        Due.due(35, "ALIKE", x.near(n, 1), 2);
        Due.due(35, "UNLIKE", x.near(n, 2), 1);
        // near a < c < b; orders with 2 less 1 or more: 3, 1, 1
        Due.due(36, "ways", x.nearWays(n), 3);
        x.mark(8, 4, 5, 0, false);
        // e is as a by both: neither with a; b and c are above it by both
        Due.due(35, "FIDDLES", x.near(n + 1, 0), 4);
        Due.due(35, "ALIKE", x.near(n + 1, 1), 4);
        Due.due(35, "UNLIKE", x.near(n + 1, 2), 1);
        for (int i : new int[] {-1, 3, MIN, MAX}) {
            Due.due(35, "what " + i, x.near(n, i), -1);
        }
        for (int i : new int[] {-1, n + 2, MIN, MAX}) {
            Due.due(35, "n " + i, x.near(i, 0), -1);
            Due.due(36, "n " + i, x.nearWays(i), -1);
        }
    }

    private static void nearEdges() {
        BlindFiddles x = Due.told(TEXT);
        Due.due(35, "none", x.near(0, 0), 0);
        Due.due(36, "none", x.nearWays(0), 1);
        for (int fiddle = 0; fiddle < 8; fiddle++) {
            x.mark(0, fiddle, 10 * fiddle, 0, false);
            x.mark(7, fiddle, fiddle < 6 ? fiddle : 0, 0, false);
        }
        Due.due(35, "one", x.near(2, 0), 1);
        Due.due(36, "one", x.nearWays(2), 1);
        Due.due(43, "say of 6", x.say(6), 64);
        Due.due(36, "one of 24", x.nearWays(8), 1);
        Due.due(43, "say of 24", x.say(8), 32 + 64);
        Due.due(36, "one of 6, asked behind", x.nearWays(6), 1);
        Due.due(35, "the first six", x.near(16, 0), 6);
        Due.due(35, "ALIKE", x.near(16, 1), 15);
        Due.due(35, "UNLIKE", x.near(16, 2), 0);
        Due.due(36, "one of 720", x.nearWays(16), 1);
        unevenNears();
        BlindFiddles y = Due.told(TEXT);
        for (int fiddle = 0; fiddle < 6; fiddle++) {
            y.mark(0, fiddle, 10 * fiddle, 0, false);
            y.mark(7, fiddle, 50, 0, false);
        }
        Due.due(35, "ALIKE of ties", y.near(12, 1), 0);
        Due.due(35, "UNLIKE of ties", y.near(12, 2), 0);
        Due.due(36, "all of ties", y.nearWays(12), 720);
        for (int fiddle = 0; fiddle < 6; fiddle++) {
            y.mark(8, fiddle, 99 - fiddle, 0, false);
        }
        Due.due(35, "UNLIKE", y.near(18, 2), 15);
        Due.due(36, "all not below the least", y.nearWays(18), 720);
    }

    /** Ties on one side, so that the ways are not the same from both ends. */
    private static void unevenNears() {
        BlindFiddles x = Due.told(TEXT);
        blind(x, 0, 1, 1, 2);
        blind(x, 7, 5, 6, 5);
        Due.due(35, "ALIKE", x.near(6, 1), 0);
        Due.due(35, "UNLIKE", x.near(6, 2), 1);
        // 2 with 6 on the third, else -1
        Due.due(36, "-1 or more", x.nearWays(6), 6);
        blind(x, 7, 5, 5, 6);
        Due.due(36, "2 or more", x.nearWays(9), 2);
        Due.due(36, "-1 or more, asked again", x.nearWays(6), 6);
        BlindFiddles y = Due.told(TEXT);
        blind(y, 0, 1, 1, 2, 3);
        blind(y, 7, 2, 2, 1, 3);
        Due.due(35, "ALIKE", y.near(8, 1), 3);
        Due.due(35, "UNLIKE", y.near(8, 2), 2);
        Due.due(36, "1 or more of -5 .. 5", y.nearWays(8), 10);
    }

    private static void beats() {
        BlindFiddles x = Due.told(TEXT);
        blind(x, 0, 10, 20, 30);
        blind(x, 1, 20, 20, 10);
        blind(x, 2, 30, -1, 40);
        blind(x, 3, -1, 0, 0);
        blind(x, 7, 0, 100, 100);
        int n = at(x);
        Due.due(37, "a over b", x.beats(n, 0, 1), 0);
        Due.due(37, "b over a", x.beats(n, 1, 0), 1);
        Due.due(37, "a over c", x.beats(n, 0, 2), 1);
        Due.due(37, "c over a", x.beats(n, 2, 0), 2);
        Due.due(37, "b over c", x.beats(n, 1, 2), 1);
        Due.due(37, "c over b", x.beats(n, 2, 1), 1);
        Due.due(37, "over one without MARKS", x.beats(n, 0, 5), 0);
        Due.due(37, "one without MARKS", x.beats(n, 5, 0), 0);
        Due.due(37, "itself", x.beats(n, 0, 0), 0);
        Due.due(37, "by 0", x.beats(0, 0, 1), 0);
        x.mark(0, 0, 21, 0, false);
        Due.due(37, "by the LAST", x.beats(n + 1, 0, 1), 1);
        for (int i : new int[] {-1, 8, MIN, MAX}) {
            Due.due(37, "fiddle " + i, x.beats(n, i, 0), -1);
            Due.due(37, "other " + i, x.beats(n, 0, i), -1);
        }
        for (int i : new int[] {-1, n + 2, MIN, MAX}) {
            Due.due(37, "n " + i, x.beats(i, 0, 1), -1);
        }
    }

    private static void winners() {
        BlindFiddles x = Due.told(TEXT);
        Due.due(38, "none", x.winner(0), -2);
        x.mark(7, 0, 90, 0, false);
        x.mark(0, 0, 90, 0, true);
        Due.due(38, "none with a MEAN", x.winner(2), -2);
        x.mark(0, 5, 0, 0, false);
        Due.due(38, "alone", x.winner(3), 5);
        Due.due(43, "say", x.say(3), 128);
        x.mark(1, 3, 100, 0, false);
        Due.due(38, "no player has both", x.winner(4), -2);
        Due.due(43, "say", x.say(4), 0);
        x.mark(0, 3, 1, 0, false);
        Due.due(38, "one to none", x.winner(5), 3);
        Due.due(43, "say", x.say(5), 64);
        x.mark(1, 5, 100, 0, false);
        Due.due(38, "one to none, one alike", x.winner(6), 3);
        x.mark(2, 5, 100, 0, false);
        x.mark(2, 3, 1, 0, false);
        Due.due(38, "one to one", x.winner(8), -2);
        // a round: a over b, b over c, c over a
        BlindFiddles y = Due.told(TEXT);
        blind(y, 0, 3, 2, 1);
        blind(y, 1, 1, 3, 2);
        Due.due(38, "b is by two", y.winner(6), -2);
        blind(y, 2, 2, 1, 3);
        Due.due(38, "a round", y.winner(9), -2);
        blind(y, 3, 1, 3, 2);
        Due.due(38, "b and c beat a alike", y.winner(12), -2);
        blind(y, 4, 1, 3, 2);
        Due.due(38, "b", y.winner(15), 1);
        for (int n : new int[] {-1, 16, MIN, MAX}) {
            Due.due(38, "n " + n, y.winner(n), -1);
        }
    }

    private static void bests() {
        BlindFiddles x = Due.told(TEXT);
        Due.due(39, "none", x.best(0, false), -2);
        Due.due(39, "none", x.best(0, true), -2);
        // MEANS: b 10, c 21 / 2, e 10, f 21 / 2
        x.mark(0, 1, 10, 0, false);
        Due.due(39, "alone", x.best(1, false), 1);
        Due.due(39, "alone", x.best(1, true), 1);
        x.mark(0, 4, 10, 0, false);
        Due.due(39, "alike", x.best(2, false), 1);
        Due.due(39, "alike", x.best(2, true), 1);
        x.mark(0, 2, 10, 0, false);
        x.mark(1, 2, 11, 0, false);
        x.mark(0, 5, 11, 0, false);
        x.mark(1, 5, 10, 0, false);
        x.mark(0, 7, 99, 0, true);
        x.mark(7, 7, 99, 0, false);
        Due.due(39, "best", x.best(8, false), 2);
        Due.due(39, "worst", x.best(8, true), 1);
        x.mark(0, 6, 9, 0, false);
        Due.due(39, "worst behind", x.best(9, true), 6);
        x.mark(0, 0, 0, 0, false);
        Due.due(39, "worst", x.best(10, true), 0);
        x.mark(0, 5, 12, 0, false);
        Due.due(39, "best", x.best(11, false), 5);
        for (int n : new int[] {-1, 12, MIN, MAX}) {
            Due.due(39, "n " + n, x.best(n, false), -1);
            Due.due(39, "n " + n, x.best(n, true), -1);
        }
    }
}
