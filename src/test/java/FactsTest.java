/** Promises 15 to 21: FACTS, what is KNOWN of them, LAST, MEAN and GUESSES. */
public final class FactsTest {
    private static final int MIN = Integer.MIN_VALUE;
    private static final int MAX = Integer.MAX_VALUE;
    private static final String TEXT = "fiddle a old 1 1 1;fiddle b new 1 1 1;fiddle c old 1 1 1;"
            + "player p 1 1 1 1;hearer h 1 1 1 1;player q 1 1 1 1;";

    public static void main(String[] args) {
        marks();
        guesses();
        voids();
        full();
        lasts();
        means();
        tallies();
        goneOnes();
        Due.end();
    }

    private static void isFact(BlindFiddles x, int fact, int... row) {
        for (int what = 0; what < 6; what++) {
            Due.due(18, "fact(" + fact + ", " + what + ")", x.fact(fact, what), row[what]);
        }
        for (int what : new int[] {-1, 6, 10, MIN, MAX}) {
            Due.due(18, "fact(" + fact + ", " + what + ")", x.fact(fact, what), -1);
        }
    }

    private static void marks() {
        BlindFiddles x = Due.told(TEXT);
        Due.due(15, "mark", x.mark(0, 1, 0, 0, false), 0);
        Due.due(15, "mark", x.mark(1, 2, 100, 9, true), 1);
        Due.due(15, "mark", x.mark(2, 0, 37, 4, false), 2);
        isFact(x, 0, 0, 0, 1, 0, 0, 0);
        isFact(x, 1, 0, 1, 2, 100, 9, 1);
        isFact(x, 2, 0, 2, 0, 37, 4, 0);
        for (int i : new int[] {-1, 3, MIN, MAX}) {
            Due.due(15, "person " + i, x.mark(i, 0, 0, 0, false), -1);
            Due.due(15, "fiddle " + i, x.mark(0, i, 0, 0, false), -1);
            Due.due(18, "fact(" + i + ", 0)", x.fact(i, 0), -1);
        }
        for (int i : new int[] {-1, 101, MIN, MAX}) {
            Due.due(15, "value " + i, x.mark(0, 0, i, 0, false), -1);
        }
        for (int i : new int[] {-1, 10, MIN, MAX}) {
            Due.due(15, "spot " + i, x.mark(0, 0, 0, i, false), -1);
        }
        Due.due(15, "count(5)", x.count(5), 3);
    }

    private static void guesses() {
        BlindFiddles x = Due.told(TEXT);
        Due.due(16, "guess", x.guess(2, 1, true), 0);
        Due.due(16, "guess", x.guess(1, 2, false), 1);
        isFact(x, 0, 1, 2, 1, 1, -1, -1);
        isFact(x, 1, 1, 1, 2, 0, -1, -1);
        for (int i : new int[] {-1, 3, MIN, MAX}) {
            Due.due(16, "person " + i, x.guess(i, 0, true), -1);
            Due.due(16, "fiddle " + i, x.guess(0, i, true), -1);
        }
        Due.due(16, "count(5)", x.count(5), 2);
    }

    private static void voids() {
        BlindFiddles x = Due.told(TEXT);
        Due.due(17, "annul(0) of nothing", x.annul(0), -1);
        x.mark(0, 0, 10, 0, false);
        x.guess(0, 0, true);
        x.mark(0, 0, 20, 0, false);
        Due.due(17, "annul(2)", x.annul(2), 3);
        Due.due(17, "annul(1)", x.annul(1), 4);
        isFact(x, 3, 2, 2, -1, -1, -1, -1);
        isFact(x, 4, 2, 1, -1, -1, -1, -1);
        isFact(x, 2, 0, 0, 0, 20, 0, 0);
        Due.due(17, "annul of a VOID", x.annul(3), -1);
        Due.due(17, "annul of its own", x.annul(5), -1);
        Due.due(17, "annul(-1)", x.annul(-1), -1);
        Due.due(17, "annul(MIN)", x.annul(MIN), -1);
        Due.due(17, "annul(MAX)", x.annul(MAX), -1);
        Due.due(17, "annul once more", x.annul(2), 5);
        Due.due(17, "count(5)", x.count(5), 6);
        Due.due(17, "last as KNOWN by 3", x.last(0, 0, false, 3), 20);
        Due.due(17, "last as KNOWN by 4", x.last(0, 0, false, 4), 10);
        Due.due(17, "last as KNOWN by 6", x.last(0, 0, false, 6), 10);
        Due.due(17, "guesses as KNOWN by 4", x.guesses(4, 0), 1);
        Due.due(17, "guesses as KNOWN by 5", x.guesses(5, 0), 0);
        Due.due(17, "annul(0)", x.annul(0), 6);
        Due.due(17, "last as KNOWN by 7", x.last(0, 0, false, 7), -2);
        Due.due(17, "last as KNOWN by 2", x.last(0, 0, false, 2), 10);
    }

    private static void full() {
        BlindFiddles x = Due.told(TEXT);
        for (int i = 0; i < 79; i++) {
            Due.due(15, "mark", x.mark(0, 0, i, 0, false), i);
        }
        Due.due(16, "guess", x.guess(0, 0, true), 79);
        Due.due(15, "mark", x.mark(0, 0, 1, 0, false), -1);
        Due.due(16, "guess", x.guess(0, 0, true), -1);
        Due.due(17, "annul", x.annul(0), -1);
        Due.due(15, "count(5)", x.count(5), 80);
        Due.due(19, "last", x.last(0, 0, false, 80), 78);
        Due.due(19, "last", x.last(0, 0, false, 81), -1);
        BlindFiddles y = Due.told(TEXT);
        y.mark(0, 0, 1, 0, false);
        for (int i = 1; i < 80; i++) {
            Due.due(17, "annul", y.annul(0), i);
        }
        Due.due(17, "annul", y.annul(0), -1);
        Due.due(19, "last", y.last(0, 0, false, 80), -2);
    }

    private static void lasts() {
        BlindFiddles x = Due.told(TEXT);
        x.mark(0, 0, 10, 0, false);
        x.mark(0, 0, 20, 0, true);
        x.mark(0, 0, 30, 5, false);
        x.mark(1, 0, 40, 0, false);
        x.mark(0, 1, 0, 0, true);
        Due.due(19, "n 0", x.last(0, 0, false, 0), -2);
        Due.due(19, "n 1", x.last(0, 0, false, 1), 10);
        Due.due(19, "n 2", x.last(0, 0, false, 2), 10);
        Due.due(19, "n 3", x.last(0, 0, false, 3), 30);
        Due.due(19, "seen", x.last(0, 0, true, 5), 20);
        Due.due(19, "seen, n 1", x.last(0, 0, true, 1), -2);
        Due.due(19, "a hearer", x.last(1, 0, false, 5), 40);
        Due.due(19, "a MARK of 0", x.last(0, 1, true, 5), 0);
        Due.due(19, "none", x.last(0, 1, false, 5), -2);
        Due.due(19, "none", x.last(2, 2, true, 5), -2);
        for (int i : new int[] {-1, 3, MIN, MAX}) {
            Due.due(19, "person " + i, x.last(i, 0, false, 5), -1);
            Due.due(19, "fiddle " + i, x.last(0, i, false, 5), -1);
        }
        for (int n : new int[] {-1, 6, MIN, MAX}) {
            Due.due(19, "n " + n, x.last(0, 0, false, n), -1);
            Due.due(19, "n " + n + " of none", x.last(2, 2, false, n), -1);
        }
    }

    private static void means() {
        BlindFiddles x = Due.told(TEXT);
        x.mark(0, 0, 10, 0, false);
        x.mark(2, 0, 15, 0, false);
        x.mark(1, 0, 70, 0, false);
        x.mark(0, 0, 90, 0, true);
        x.mark(0, 0, 12, 0, false);
        x.mark(1, 2, 0, 0, false);
        Due.due(20, "S", x.mean(0, false, 6, 0), 27);
        Due.due(20, "N", x.mean(0, false, 6, 1), 2);
        Due.due(20, "S by 4", x.mean(0, false, 4, 0), 25);
        Due.due(20, "S by 1", x.mean(0, false, 1, 0), 10);
        Due.due(20, "N by 1", x.mean(0, false, 1, 1), 1);
        Due.due(20, "far S", x.mean(0, true, 6, 0), 70);
        Due.due(20, "far N", x.mean(0, true, 6, 1), 1);
        Due.due(20, "far S of 0", x.mean(2, true, 6, 0), 0);
        Due.due(20, "far N of 0", x.mean(2, true, 6, 1), 1);
        Due.due(20, "S of none", x.mean(1, false, 6, 0), 0);
        Due.due(20, "N of none", x.mean(1, false, 6, 1), 0);
        for (int i : new int[] {-1, 3, MIN, MAX}) {
            Due.due(20, "fiddle " + i, x.mean(i, false, 6, 0), -1);
        }
        for (int i : new int[] {-1, 2, MIN, MAX}) {
            Due.due(20, "what " + i, x.mean(0, false, 6, i), -1);
        }
        for (int n : new int[] {-1, 7, MIN, MAX}) {
            Due.due(20, "n " + n, x.mean(0, false, n, 0), -1);
        }
    }

    private static void tallies() {
        BlindFiddles x = Due.told(TEXT);
        x.guess(0, 0, true);
        x.guess(1, 0, true);
        x.guess(2, 0, false);
        x.guess(0, 1, true);
        x.guess(0, 1, false);
        x.mark(0, 1, 1, 1, false);
        x.guess(0, 2, true);
        int[] all = {6, 4, 4, 4, 3};
        int[] three = {3, 2, 2, 3, 2};
        for (int what = 0; what < 5; what++) {
            Due.due(21, "guesses(7, " + what + ")", x.guesses(7, what), all[what]);
            Due.due(21, "guesses(3, " + what + ")", x.guesses(3, what), three[what]);
            Due.due(21, "guesses(0, " + what + ")", x.guesses(0, what), 0);
            Due.due(21, "guesses(8, " + what + ")", x.guesses(8, what), -1);
            Due.due(21, "guesses(-1, " + what + ")", x.guesses(-1, what), -1);
        }
        for (int i : new int[] {-1, 5, MIN, MAX}) {
            Due.due(21, "what " + i, x.guesses(7, i), -1);
        }
        x.annul(3);
        int[] left = {5, 4, 3, 4, 3};
        for (int what = 0; what < 5; what++) {
            Due.due(21, "guesses(8, " + what + ")", x.guesses(8, what), left[what]);
            Due.due(21, "guesses(7, " + what + ")", x.guesses(7, what), all[what]);
        }
    }

    /** Those of FIDDLES or PEOPLE that are not there count nowhere but among FACTS. */
    private static void goneOnes() {
        BlindFiddles x = Due.told(TEXT);
        x.mark(0, 0, 10, 1, false);
        x.mark(2, 0, 20, 1, false);
        x.guess(0, 2, true);
        x.guess(2, 0, true);
        x.guess(0, 0, true);
        Due.due(18, "read()", Due.tell(x, "fiddle a new 1 1 1;player p 1 1 1 1;"), 0);
        Due.due(18, "count(5)", x.count(5), 5);
        isFact(x, 1, 0, 2, 0, 20, 1, 0);
        isFact(x, 2, 1, 0, 2, 1, -1, -1);
        Due.due(20, "S", x.mean(0, false, 5, 0), 10);
        Due.due(20, "N", x.mean(0, false, 5, 1), 1);
        Due.due(21, "m", x.guesses(5, 0), 1);
        Due.due(21, "r of what is new now", x.guesses(5, 1), 0);
        Due.due(33, "spot(5, 1, 0)", x.spot(5, 1, 0), 10);
        Due.due(19, "last of one not there", x.last(2, 0, false, 5), -1);
        Due.due(17, "annul of one not there", x.annul(1), 5);
        Due.due(18, "read()", Due.tell(x, TEXT), 0);
        Due.due(20, "S by 5", x.mean(0, false, 5, 0), 30);
        Due.due(20, "S by 6", x.mean(0, false, 6, 0), 10);
        Due.due(21, "m", x.guesses(6, 0), 3);
        Due.due(21, "r", x.guesses(6, 1), 3);
    }
}
