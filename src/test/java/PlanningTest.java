/** Promises 40 to 44: NEED, PARTS, THE NEXT PLAN, SAY and what turned it. */
public final class PlanningTest {
    private static final int MIN = Integer.MIN_VALUE;
    private static final int MAX = Integer.MAX_VALUE;
    private static final String TEXT = "fiddle a old 1 9 5;fiddle b old 5 1 5;fiddle c old 9 5 1;fiddle d new 3 3 3;"
            + "fiddle e new 1 1 1;fiddle f new 1 1 1;player p 1 1 1 1;player q 1 1 1 1;hearer h 1 1 1 1;bow w 0 0 0;"
            + "law l=bright;law m=loud;law n=noise;law o=0-bright;";

    public static void main(String[] args) {
        needs();
        wrongNeeds();
        partings();
        nextPlans();
        sayings();
        turnings();
        changes();
        Due.end();
    }

    private static void isNeed(int u, int v, int a, int b, int n, int r) {
        BlindFiddles x = new BlindFiddles();
        String call = "need(" + u + ", " + v + ", " + a + ", " + b + ", ";
        Due.due(40, call + "0)", x.need(u, v, a, b, 0), n);
        Due.due(40, call + "1)", x.need(u, v, a, b, 1), r);
        Due.due(40, call + "0) once more", x.need(u, v, a, b, 0), n);
    }

    private static void needs() {
        // always right: 2 to the n is not below u
        isNeed(2, 2, 2, 2, 1, 1);
        isNeed(20, 2, 3, 3, 5, 5);
        isNeed(32, 1000, 2, 2, 5, 5);
        isNeed(33, 1000, 2, 2, 6, 6);
        isNeed(1000, 1000, 4, 4, 10, 10);
        isNeed(1000, 999, 3, 3, 10, 10);
        // never right
        isNeed(2, 2, 0, 2, -2, -2);
        isNeed(2, 2, 0, 4, -2, -2);
        // as a coin: one half each way, and no more
        isNeed(2, 2, 1, 2, 1, 1);
        isNeed(2, 3, 1, 2, -2, -2);
        isNeed(2, 2, 2, 3, 1, 1);
        isNeed(2, 2, 1, 3, -2, -2);
        isNeed(2, 2, 1, 4, -2, -2);
        isNeed(20, 5, 3, 4, 23, 16);
        isNeed(20, 2, 2, 3, 28, 19);
        isNeed(40, 5, 3, 4, 30, 21);
        isNeed(20, 20, 3, 4, -2, -2);
        // 31 tries would do
        isNeed(23, 7, 3, 4, -2, -2);
        isNeed(20, 3, 2, 3, -2, -2);
        // 64 bits would not hold v times 4 to the 30
        isNeed(1000, 1000, 3, 4, -2, -2);
        isNeed(1000, 8, 3, 4, -2, -2);
    }

    private static void wrongNeeds() {
        for (int i : new int[] {-1, 0, 1, 1001, MIN, MAX}) {
            isNeed(i, 2, 2, 2, -1, -1);
            isNeed(2, i, 2, 2, -1, -1);
        }
        for (int b : new int[] {-1, 0, 1, 5, MIN, MAX}) {
            isNeed(2, 2, 0, b, -1, -1);
            isNeed(2, 2, b, b, -1, -1);
        }
        for (int b = 2; b <= 4; b++) {
            for (int a : new int[] {-1, b + 1, MIN, MAX}) {
                isNeed(2, 2, a, b, -1, -1);
            }
        }
        BlindFiddles x = new BlindFiddles();
        for (int what : new int[] {-1, 2, MIN, MAX}) {
            Due.due(40, "what " + what, x.need(2, 2, 2, 2, what), -1);
            Due.due(40, "what " + what + " of none", x.need(2, 2, 0, 2, what), -1);
        }
    }

    private static void partings() {
        BlindFiddles x = Due.told(TEXT
                + "plan x{sit p with w:a,b,c;sit p with w:d,e;sit p with w:a,b;}plan v{}plan y{sit q with w:a,b;}");
        // l takes c, d, b; m takes a, d, a; o takes a, e, a
        Due.due(41, "l and m", x.parts(0, 0, 1, 7), 2);
        Due.due(41, "m and l", x.parts(0, 1, 0, 7), 2);
        Due.due(41, "l and l", x.parts(0, 0, 0, 7), 0);
        Due.due(41, "m and o", x.parts(0, 1, 3, 7), 1);
        Due.due(41, "l and o", x.parts(0, 0, 3, 7), 3);
        Due.due(41, "empty", x.parts(1, 0, 1, 7), 0);
        Due.due(41, "one", x.parts(2, 0, 1, 7), 1);
        // noise of SEED 7: 4 6 3, 9 0, 4 8: takes b, d, b
        Due.due(41, "l and noise, SEED 7", x.parts(0, 0, 2, 7), 1);
        Due.due(41, "m and noise, SEED 7", x.parts(0, 1, 2, 7), 2);
        // of SEED 2147483647: 2 3, of SEED -2147483648: 6 4
        Due.due(41, "y with SEED MAX", x.parts(2, 0, 2, MAX), 0);
        Due.due(41, "y with SEED MIN", x.parts(2, 0, 2, MIN), 1);
        for (int i : new int[] {-1, 3, MIN, MAX}) {
            Due.due(41, "plan " + i, x.parts(i, 0, 1, 7), -1);
        }
        for (int i : new int[] {-1, 4, MIN, MAX}) {
            Due.due(41, "law " + i, x.parts(0, i, 1, 7), -1);
            Due.due(41, "other " + i, x.parts(0, 0, i, 7), -1);
            Due.due(42, "law " + i, x.next(i, 1, 7), -1);
            Due.due(42, "other " + i, x.next(0, i, 7), -1);
        }
    }

    private static void nextPlans() {
        BlindFiddles x = Due.told(TEXT + "plan v{sit p with w:d,e;sit p with w:d,e;}plan x{sit p with w:d,e;}"
                + "plan y{sit p with w:a,b;sit p with w:d,e;}plan z{sit p with w:d;}");
        Due.due(42, "the greatest PARTS", x.next(0, 1, 7), 2);
        Due.due(42, "none parts: the fewest SITTINGS, the first", x.next(0, 0, 7), 1);
        Due.due(42, "l and o: v and y part twice, the first", x.next(0, 3, 7), 0);
        BlindFiddles y = Due.told(TEXT + "plan v{sit p with w:d;sit p with w:a,b;sit p with w:d;}plan x{sit p with w:d;}"
                + "plan y{sit p with w:a,b;sit p with w:d;}plan z{sit p with w:d;sit p with w:a,b;}");
        Due.due(42, "alike: the fewest SITTINGS, the first", y.next(0, 1, 7), 2);
        Due.due(42, "none parts", y.next(1, 1, 7), 1);
        BlindFiddles z = Due.told(TEXT);
        Due.due(42, "no PLAN", z.next(0, 1, 7), -2);
        Due.due(42, "no PLAN and no LAW", z.next(0, 4, 7), -1);
        Due.due(42, "no PLAN and no LAW", new BlindFiddles().next(0, 0, 7), -1);
        BlindFiddles v = Due.told(TEXT + "plan v{}");
        Due.due(42, "an empty PLAN", v.next(0, 1, 7), 0);
        BlindFiddles u = Due.told(TEXT + "plan x{sit p with w:d;}plan v{}");
        Due.due(42, "an empty PLAN has the fewest", u.next(0, 1, 7), 1);
    }

    private static void sayings() {
        BlindFiddles x = Due.told(TEXT);
        Due.due(43, "none", x.say(0), 0);
        for (int i = 0; i < 5; i++) {
            x.guess(i % 2 == 0 ? 0 : 2, i, i < 3);
        }
        Due.due(43, "1 of 16", x.say(4), 0);
        Due.due(43, "1 of 32", x.say(5), 1);
        x.guess(0, 0, false);
        Due.due(43, "7 of 64", x.say(6), 0);
        x.guess(0, 0, true);
        x.guess(0, 0, true);
        Due.due(43, "9 of 256", x.say(8), 1);
        // KINDS BY FIDDLES: 1 of 20 is enough, and WINNER c
        x.mark(0, 0, 50, 0, false);
        x.mark(0, 1, 60, 0, false);
        x.mark(0, 2, 70, 0, false);
        x.mark(0, 3, 40, 0, false);
        x.mark(0, 4, 30, 0, false);
        Due.due(43, "1 of 10", x.say(13), 1 + 64);
        x.mark(0, 5, 20, 0, false);
        Due.due(43, "1 of 20", x.say(14), 1 + 2 + 64);
        x.mark(0, 5, 50, 0, false);
        Due.due(43, "2 of 20", x.say(15), 1 + 64);
        x.mark(0, 5, 80, 0, false);
        Due.due(43, "a new one wins", x.say(16), 1 + 128);
        for (int n : new int[] {-1, 17, 80, 81, MIN, MAX}) {
            Due.due(43, "n " + n, x.say(n), -1);
        }
        Due.due(43, "as KNOWN by 14, later", x.say(14), 1 + 2 + 64);
    }

    private static void turnings() {
        BlindFiddles x = Due.told(TEXT);
        Due.due(44, "no FACT", x.turned(0), -1);
        x.mark(2, 0, 50, 0, false);
        x.mark(0, 0, 50, 0, false);
        x.mark(0, 0, 51, 0, false);
        x.mark(0, 4, 52, 0, false);
        x.mark(0, 5, 1, 0, false);
        x.annul(3);
        x.guess(0, 0, true);
        x.annul(1);
        x.annul(2);
        // SAY: 0, 0, 64, 64, 128, 128, 64 (VOID), 64, 64, 128 (VOID of the last of a)
        int[] say = {0, 0, 64, 64, 128, 128, 64, 64, 64, 128};
        for (int n = 0; n < say.length; n++) {
            Due.due(43, "say(" + n + ")", x.say(n), say[n]);
        }
        int[] turned = {1, 1, 3, 3, 5, 5, 8, 8, 8, -1};
        for (int from = 0; from < turned.length; from++) {
            Due.due(44, "turned(" + from + ")", x.turned(from), turned[from]);
        }
        for (int from : new int[] {-1, MIN, MAX, 80, 81}) {
            Due.due(44, "turned(" + from + ")", x.turned(from), -1);
        }
        x.guess(0, 0, true);
        Due.due(44, "turned(9) and nothing turns", x.turned(9), -1);
    }

    /** What has been reckoned is told anew when the text is another. */
    private static void changes() {
        BlindFiddles x = Due.told(TEXT);
        x.mark(0, 0, 50, 0, false);
        x.mark(0, 4, 20, 0, false);
        Due.due(43, "say(2)", x.say(2), 64);
        Due.due(44, "turned(0)", x.turned(0), 0);
        Due.due(43, "read()", Due.tell(x, "bow ;"), 1);
        Due.due(43, "say(2) behind a FAULT", x.say(2), 64);
        Due.due(43, "read()", Due.tell(x, "fiddle a new 1 1 1;player p 1 1 1 1;"), 0);
        Due.due(43, "say(2)", x.say(2), 128);
        Due.due(43, "read()", x.read(), 0);
        Due.due(43, "say(2)", x.say(2), 0);
        Due.due(44, "turned(0)", x.turned(0), -1);
        Due.due(43, "read()", Due.tell(x, TEXT), 0);
        Due.due(43, "say(2)", x.say(2), 64);
        for (int i = 0; i < 78; i++) {
            x.mark(1, 4, 90, 0, false);
        }
        Due.due(43, "say(80)", x.say(80), 64);
        Due.due(44, "turned(79)", x.turned(79), -1);
        Due.due(43, "say(81)", x.say(81), -1);
    }
}
