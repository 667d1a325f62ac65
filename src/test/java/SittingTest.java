/** Promises 9 to 14: LIKING, LOTS, SITTINGS and SETTINGS. */
public final class SittingTest {
    private static final int MIN = Integer.MIN_VALUE;
    private static final int MAX = Integer.MAX_VALUE;

    public static void main(String[] args) {
        likings();
        wholeLaws();
        wrapping();
        wrongLikings();
        takings();
        runs();
        runRoom();
        touches();
        gainings();
        Due.end();
    }

    private static void likings() {
        BlindFiddles x = Due.told("fiddle a old 5 6 7;fiddle b new 8 2 1 barred;player p 1 2 3 4;hearer h 5 6 7 8;"
                + "bow u 0 0 0;bow w 1 -2 9;law l=bright*100*100+loud*100+quick;law m=warm*1000+strong*100+light*10+habit;"
                + "law n=old*100*100+seen*1000+far*100+spot*10+noise;");
        Due.due(9, "SOUNDS", x.liking(0, 0, 0, 0, false, 0, 0), 50607);
        Due.due(9, "SOUNDS with a BOW", x.liking(0, 0, 0, 1, false, 0, 0), 60416);
        Due.due(9, "SOUNDS of b", x.liking(0, 1, 1, 1, true, 9, 9), 90010);
        Due.due(9, "LIKINGS", x.liking(1, 0, 0, 0, false, 0, 0), 1234);
        Due.due(9, "LIKINGS of h", x.liking(1, 1, 1, 1, false, 0, 0), 5678);
        Due.due(9, "old", x.liking(2, 0, 0, 0, false, 0, 0), 10000);
        Due.due(9, "seen", x.liking(2, 0, 1, 0, true, 0, 0), 1000);
        Due.due(9, "far", x.liking(2, 1, 1, 0, false, 0, 0), 100);
        Due.due(9, "spot", x.liking(2, 0, 1, 0, false, 9, 0), 90);
        Due.due(9, "noise", x.liking(2, 0, 1, 0, false, 0, 9), 9);
        Due.due(9, "all", x.liking(2, 1, 0, 1, true, 4, 7), 11147);
    }

    private static int lawOf(String law) {
        BlindFiddles x = Due.told("fiddle a old 2 3 5;player p 7 1 4 9;bow w 0 0 0;law l=" + law + ";");
        return x.liking(0, 0, 0, 0, false, 3, 6);
    }

    private static void wholeLaws() {
        Due.due(9, "9999", lawOf("9999"), 9999);
        Due.due(9, "0012", lawOf("0012"), 12);
        Due.due(9, "1-2-3", lawOf("1-2-3"), -4);
        Due.due(9, "1-2+3", lawOf("1-2+3"), 2);
        Due.due(9, "1-(2-3)", lawOf("1-(2-3)"), 2);
        Due.due(9, "2+3*4", lawOf("2+3*4"), 14);
        Due.due(9, "2*3+4", lawOf("2*3+4"), 10);
        Due.due(9, "2*3*4-5*6*7", lawOf("2*3*4-5*6*7"), -186);
        Due.due(9, "(2+3)*4", lawOf("(2+3)*4"), 20);
        Due.due(9, "2*(3+4)*5-1", lawOf("2*(3+4)*5-1"), 69);
        Due.due(9, "[1<2]", lawOf("[1<2]"), 1);
        Due.due(9, "[2<2]", lawOf("[2<2]"), 0);
        Due.due(9, "[3<2]", lawOf("[3<2]"), 0);
        Due.due(9, "[2==2]", lawOf("[2==2]"), 1);
        Due.due(9, "[2==3]", lawOf("[2==3]"), 0);
        Due.due(9, "[0-1<0]", lawOf("[0-1<0]"), 1);
        Due.due(9, "[1+1==4-2]*8", lawOf("[1+1==4-2]*8"), 8);
        Due.due(9, "5-[1<2]*[2<1]-[[1<2]==1]", lawOf("5-[1<2]*[2<1]-[[1<2]==1]"), 4);
        Due.due(9, "6 deep", lawOf("1-(1-(1-(1-(1-(1-5)))))"), 5);
        Due.due(9, "6 deep, 3 each", lawOf("1+2*[1+2*3<1+2*[1+2*3<1+2*[1+2*3<1+2*[1+2*3<1+2*[1+2*3<1+2*[1+2*3<9]]]]]]"),
                1);
        Due.due(9, "6 deep, so", lawOf("1+2*[0+0*3<1+2*[0+0*3<1+2*[0+0*3<1+2*[0+0*3<1+2*[0+0*3<1+2*[1+2*3<9]]]]]]"), 3);
        Due.due(9, "vars", lawOf("bright*loud-quick+warm*strong-light*habit+spot-noise"), -31);
        Due.due(9, "long", lawOf("1" + "+1".repeat(185)), 186);
        Due.due(9, "long row of times", lawOf("1" + "*1".repeat(180) + "*7"), 7);
    }

    private static void wrapping() {
        Due.due(9, "wraps", lawOf("9999*9999*9999"), (int) (9999L * 9999 * 9999));
        Due.due(9, "wraps below", lawOf("0-9999*9999*9999*9999"), -(9999 * 9999 * 9999 * 9999));
        Due.due(9, "greatest and 1", lawOf("2048*1024*1024-1+1"), MIN);
        Due.due(9, "compared as wrapped", lawOf("[2048*1024*1024<0]"), 1);
        Due.due(9, "alike as wrapped", lawOf("[4096*1024*1024==0]"), 1);
    }

    private static void wrongLikings() {
        BlindFiddles x = Due.told("fiddle a old 5 6 7;player p 1 2 3 4;bow w 1 -2 9;law l=7;");
        Due.due(9, "right", x.liking(0, 0, 0, 0, false, 0, 0), 7);
        Due.due(9, "right", x.liking(0, 0, 0, 0, true, 9, 9), 7);
        for (int i : new int[] {-1, 1, MIN, MAX}) {
            Due.due(9, "law " + i, x.liking(i, 0, 0, 0, false, 0, 0), MIN);
            Due.due(9, "person " + i, x.liking(0, i, 0, 0, false, 0, 0), MIN);
            Due.due(9, "fiddle " + i, x.liking(0, 0, i, 0, false, 0, 0), MIN);
            Due.due(9, "bow " + i, x.liking(0, 0, 0, i, false, 0, 0), MIN);
        }
        for (int i : new int[] {-1, 10, MIN, MAX}) {
            Due.due(9, "spot " + i, x.liking(0, 0, 0, 0, false, i, 0), MIN);
            Due.due(9, "noise " + i, x.liking(0, 0, 0, 0, false, 0, i), MIN);
        }
    }

    /** LOTS 10 of SEED 7: k 0: 4 6 3 2, k 1: 9 0, k 2: 4; of SEED 0: 3 9 3 4, 8 2, 9. */
    private static final String SITTERS = "fiddle a old 5 6 7;fiddle b new 8 2 1 barred;fiddle c old 20 0 3 barred;"
            + "fiddle d new 0 20 9;player p 1 2 3 4;player q 9 0 0 9;hearer h 0 1 0 2;bow w 1 -2 0;bow v -9 9 0;"
            + "law l=bright*warm+loud*strong+quick*light;law n=noise;law g=old;law s=spot*10-5;law k=seen*2+far-1;"
            + "plan x{sit p with w:a,b,c,d;sit q with v seen:d,a;sit h with w:b;}plan e{}"
            + "plan y{sit q with w:b,d;sit q with w:d,a,c;}";

    private static void takings() {
        BlindFiddles x = Due.told(SITTERS);
        // by noise alone
        Due.due(10, "taken(0, 1, 7, 0)", x.taken(0, 1, 7, 0), 1);
        Due.due(10, "taken(0, 1, 7, 1)", x.taken(0, 1, 7, 1), 3);
        Due.due(10, "taken(0, 1, 7, 2)", x.taken(0, 1, 7, 2), 1);
        Due.due(10, "taken(0, 1, 0, 0)", x.taken(0, 1, 0, 0), 1);
        // SEED -1: 7 0 4 8; SEED -2147483648: 6 4 0 1; SEED 2147483647: 2 3 3 7
        Due.due(10, "taken(0, 1, -1, 0)", x.taken(0, 1, -1, 0), 3);
        Due.due(10, "taken(0, 1, MIN, 0)", x.taken(0, 1, MIN, 0), 0);
        Due.due(10, "taken(0, 1, MAX, 0)", x.taken(0, 1, MAX, 0), 3);
        // old ones alike: the first in the order
        Due.due(10, "taken(0, 2, 7, 0)", x.taken(0, 2, 7, 0), 0);
        Due.due(10, "taken(2, 2, 7, 1)", x.taken(2, 2, 7, 1), 0);
        Due.due(10, "taken(2, 2, 7, 0)", x.taken(2, 2, 7, 0), 1);
        Due.due(10, "taken(0, 3, 7, 0)", x.taken(0, 3, 7, 0), 3);
        Due.due(10, "taken(0, 0, 7, 0)", x.taken(0, 0, 7, 0), 3);
        // below 0 all: d has 0 - 9, a 5 - 9, each times 9
        Due.due(10, "taken(0, 0, 7, 1)", x.taken(0, 0, 7, 1), 0);
        Due.due(11, "takes(0, 1, 7, 1)", x.takes(0, 1, 7, 1), 2);
        Due.due(11, "takes(0, 1, 7, 3)", x.takes(0, 1, 7, 3), 1);
        Due.due(11, "takes(0, 1, 7, 0)", x.takes(0, 1, 7, 0), 0);
        Due.due(11, "takes(0, 1, 7, -1)", x.takes(0, 1, 7, -1), 0);
        Due.due(11, "takes(0, 2, 7, -1)", x.takes(0, 2, 7, -1), 2);
        Due.due(11, "takes(1, 2, 7, -1)", x.takes(1, 2, 7, -1), 0);
        Due.due(11, "takes(1, 2, 7, 0)", x.takes(1, 2, 7, 0), 0);
        for (int i : new int[] {-1, 3, MIN, MAX}) {
            Due.due(10, "plan " + i, x.taken(i, 0, 7, 0), -1);
            Due.due(10, "k " + i, x.taken(0, 0, 7, i), -1);
            Due.due(11, "plan " + i, x.takes(i, 0, 7, 0), -2);
            Due.due(12, "plan " + i, x.run(i, 0, 0, 7), -1);
        }
        for (int i : new int[] {-1, 5, MIN, MAX}) {
            Due.due(10, "law " + i, x.taken(0, i, 7, 0), -1);
            Due.due(11, "law " + i, x.takes(0, i, 7, 0), -2);
            Due.due(12, "law " + i, x.run(0, i, 0, 7), -1);
            Due.due(12, "guess " + i, x.run(0, 0, i, 7), -1);
        }
        for (int i : new int[] {-2, 4, MIN, MAX}) {
            Due.due(11, "fiddle " + i, x.takes(0, 0, 7, i), -2);
        }
        Due.due(10, "k of an empty PLAN", x.taken(1, 0, 7, 0), -1);
        Due.due(12, "nothing has come", x.count(5), 0);
    }

    private static void isFact(BlindFiddles x, int fact, int... row) {
        for (int what = 0; what < 6; what++) {
            Due.due(12, "fact(" + fact + ", " + what + ")", x.fact(fact, what), row[what]);
        }
    }

    private static void runs() {
        BlindFiddles x = Due.told(SITTERS);
        Due.due(12, "run of an empty PLAN", x.run(1, 0, 0, 7), 0);
        Due.due(12, "run(0, 0, 1, 7)", x.run(0, 0, 1, 7), 12);
        // LIKING of p with w: a 6 + 8 + 21, b 9 + 0 + 3, c 21 - 4 + 9, d 1 + 36 + 27; guesses by noise 4 6 3 2
        isFact(x, 0, 0, 0, 0, 35, 0, 0);
        isFact(x, 1, 1, 0, 0, 1, -1, -1);
        isFact(x, 2, 0, 0, 1, 12, 1, 0);
        isFact(x, 3, 1, 0, 1, 1, -1, -1);
        isFact(x, 4, 0, 0, 2, 26, 2, 0);
        isFact(x, 6, 0, 0, 3, 64, 3, 0);
        // q with v, seen: held to 0
        isFact(x, 8, 0, 1, 3, 0, 0, 1);
        isFact(x, 9, 0, 1, 0, 0, 1, 1);
        // h with w: loud of b is 0
        isFact(x, 10, 0, 2, 1, 0, 0, 0);
        isFact(x, 11, 1, 2, 1, 1, -1, -1);
        Due.due(12, "run(2, 0, 3, 7)", x.run(2, 0, 3, 7), 10);
        // q with w: b 81, d 9; d 9, a 54, c held to 100; guesses: spot 0 new, others old
        isFact(x, 12, 0, 1, 1, 81, 0, 0);
        isFact(x, 13, 1, 1, 1, 0, -1, -1);
        isFact(x, 14, 0, 1, 3, 9, 1, 0);
        isFact(x, 15, 1, 1, 3, 1, -1, -1);
        isFact(x, 20, 0, 1, 2, 100, 2, 0);
        isFact(x, 21, 1, 1, 2, 1, -1, -1);
        // the same noise for both: seed 7 has 0 at k 1, spot 1
        Due.due(12, "run(2, 1, 1, 7)", x.run(2, 1, 1, 7), 10);
        isFact(x, 26, 0, 1, 3, 9, 0, 0);
        isFact(x, 27, 1, 1, 3, 1, -1, -1);
        isFact(x, 28, 0, 1, 0, 0, 1, 0);
        isFact(x, 29, 1, 1, 0, 0, -1, -1);
        // a guess is blind: seen is 0 in it
        Due.due(12, "run(2, 4, 4, 7)", x.run(2, 4, 4, 7), 10);
        isFact(x, 33, 1, 1, 1, 0, -1, -1);
        // just above 0 is old
        Due.due(12, "run(2, 0, 2, 7)", x.run(2, 0, 2, 7), 10);
        isFact(x, 43, 1, 1, 1, 0, -1, -1);
        isFact(x, 49, 1, 1, 0, 1, -1, -1);
    }

    private static void runRoom() {
        BlindFiddles x = Due.told(SITTERS);
        for (int i = 0; i < 6; i++) {
            Due.due(12, "run " + i, x.run(0, 0, 2, i), 12);
        }
        Due.due(12, "run beyond 80", x.run(0, 0, 2, 6), -1);
        Due.due(12, "count(5)", x.count(5), 72);
        Due.due(12, "run beyond 80", x.run(2, 0, 2, 6), -1);
        Due.due(12, "count(5)", x.count(5), 72);
        x.annul(0);
        x.annul(1);
        Due.due(12, "fact(73, 0)", x.fact(73, 0), 2);
        BlindFiddles y = Due.told(SITTERS);
        for (int i = 0; i < 8; i++) {
            Due.due(12, "run " + i, y.run(2, 0, 2, i), 10);
        }
        Due.due(12, "count(5)", y.count(5), 80);
        Due.due(12, "run beyond 80", y.run(2, 0, 2, 6), -1);
        Due.due(12, "run of nothing at 80", y.run(1, 0, 2, 6), 0);
    }

    private static void touches() {
        BlindFiddles x = Due.told("fiddle a old 5 6 7;fiddle b new 8 2 1 barred;player p 1 2 3 4;hearer h 5 6 7 8;"
                + "bow w 1 -2 9;law l=bright*warm-loud*strong+quick*light;law m=[bright==7]*[loud==2]*[quick==18];"
                + "law n=9+seen+spot+noise;law o=(bright-6)*(bright-6)-(loud-4)*(loud-4);law r=loud;law z=quick*quick;");
        // p and a with w: 6, 4, 16: 6 - 8 + 48
        Due.due(13, "t 0", x.touch(0, 0, 0, 0, 0, true), 46);
        Due.due(13, "t 0 least", x.touch(0, 0, 0, 0, 0, false), 46);
        Due.due(13, "t 1", x.touch(0, 0, 0, 0, 1, true), 52);
        Due.due(13, "t 1 least", x.touch(0, 0, 0, 0, 1, false), 40);
        Due.due(13, "t 3", x.touch(0, 0, 0, 0, 3, true), 64);
        Due.due(13, "t 3 least", x.touch(0, 0, 0, 0, 3, false), 28);
        // a hearer, and one that is barred: 9, 0, 10 with 5, 6, 7
        Due.due(13, "h and b, t 2", x.touch(0, 1, 1, 0, 2, true), 115 + 36);
        Due.due(13, "within 2 by itself", x.touch(1, 0, 0, 0, 2, true), 1);
        Due.due(13, "within 2 by itself, least", x.touch(1, 0, 0, 0, 2, false), 0);
        Due.due(13, "not within 1", x.touch(1, 0, 0, 0, 1, true), 0);
        Due.due(13, "blind, spot 0, noise 0", x.touch(2, 0, 0, 0, 3, true), 9);
        Due.due(13, "at the rims", x.touch(3, 0, 0, 0, 3, true), 9);
        Due.due(13, "at the rims, least", x.touch(3, 0, 0, 0, 3, false), -9);
        Due.due(13, "loud alone", x.touch(4, 0, 0, 0, 2, true), 6);
        Due.due(13, "loud alone, least", x.touch(4, 0, 0, 0, 2, false), 2);
        Due.due(13, "quick alone", x.touch(5, 0, 0, 0, 2, true), 324);
        Due.due(13, "untouched behind it", x.liking(0, 0, 0, 0, false, 0, 0), 46);
        Due.due(13, "seen and at a spot ahead of it", x.liking(2, 0, 0, 0, true, 9, 9), 28);
        Due.due(13, "blind, spot 0, noise 0 behind that", x.touch(2, 0, 0, 0, 3, true), 9);
        for (int i : new int[] {-1, MIN, MAX}) {
            Due.due(13, "law " + i, x.touch(i, 0, 0, 0, 0, true), MIN);
            Due.due(13, "person " + i, x.touch(0, i, 0, 0, 0, true), MIN);
            Due.due(13, "fiddle " + i, x.touch(0, 0, i, 0, 0, true), MIN);
            Due.due(13, "bow " + i, x.touch(0, 0, 0, i, 0, true), MIN);
            Due.due(13, "t " + i, x.touch(0, 0, 0, 0, i, true), MIN);
        }
        Due.due(13, "law 6", x.touch(6, 0, 0, 0, 0, true), MIN);
        Due.due(13, "person 2", x.touch(0, 2, 0, 0, 0, true), MIN);
        Due.due(13, "fiddle 2", x.touch(0, 0, 2, 0, 0, true), MIN);
        Due.due(13, "bow 1", x.touch(0, 0, 0, 1, 0, true), MIN);
        Due.due(13, "t 4", x.touch(0, 0, 0, 0, 4, true), MIN);
    }

    private static void gainings() {
        BlindFiddles x = Due.told("fiddle a old 5 6 7;fiddle b new 8 2 1;fiddle c old 1 1 1 barred;fiddle d new 1 1 1;"
                + "fiddle e old 0 0 0 barred;fiddle f new 0 0 0 barred;fiddle g old 1 1 1 barred;"
                + "player p 1 2 3 4;player q 5 0 0 0;hearer h 9 9 9 9;bow u 0 0 0;bow w 1 -2 9;"
                + "law l=bright*warm-loud*strong+quick*light;law m=0-quick*quick;law n=7;law o=bright*1024*1024*1024;");
        // each step of a SOUND is worth 1 + 2 + 3 to p, 5 to q
        int[] kinds = {1, 2, 3, 1};
        for (int what = 0; what < 4; what++) {
            for (int t = 0; t < 4; t++) {
                Due.due(14, "gains(0, 0, " + t + ", " + what + ")", x.gains(0, 0, t, what), 11L * t * kinds[what]);
                Due.due(14, "gains(0, 1, " + t + ", " + what + ")", x.gains(0, 1, t, what), 11L * t * kinds[what]);
                Due.due(14, "gains(2, 1, " + t + ", " + what + ")", x.gains(2, 1, t, what), 0);
            }
        }
        BlindFiddles z = Due.told("fiddle a old 1 1 1;player p 1 1 1 1;bow w 0 0 0;law l=bright*(1+seen+spot+noise);");
        Due.due(14, "seen and at a spot ahead of it", z.liking(0, 0, 0, 0, true, 9, 9), 20);
        Due.due(14, "blind, spot 0, noise 0", z.gains(0, 0, 3, 0), 3);
        // quick nearer to 0: 7 and 1 (old a: 49 less 16), c and g from 1, e is there
        Due.due(14, "gains(1, 0, 3, 0)", x.gains(1, 0, 3, 0), 2 * (49 - 16));
        Due.due(14, "gains(1, 0, 3, 1)", x.gains(1, 0, 3, 1), 2 * (1 + 1));
        Due.due(14, "gains(1, 0, 3, 2)", x.gains(1, 0, 3, 2), 2 * (1 + 0 + 1));
        Due.due(14, "gains(1, 0, 3, 3)", x.gains(1, 0, 3, 3), 0);
        // bright 5: 1073741824; with one less 0, one more -2147483648; b: 8 is 0; with 7 or 9 + or -1073741824
        Due.due(14, "gains(3, 0, 0, 0)", x.gains(3, 0, 0, 0), 0);
        Due.due(14, "gains(3, 0, 1, 1)", x.gains(3, 0, 1, 1), 2L * 1073741824);
        // bright 2 is -2147483648; 1 above it 3: -1073741824, below 1073741824: beyond 32 bits each
        BlindFiddles y = Due.told("fiddle a new 2 0 0;player p 0 0 0 0;player q 0 0 0 0;bow u 0 0 0;"
                + "law o=bright*1024*1024*1024;");
        Due.due(14, "beyond 32 bits", y.gains(0, 0, 1, 1), 2L * (1073741824L + 2147483648L));
        Due.due(14, "none of the kind", y.gains(0, 0, 1, 0), 0);
        for (int i : new int[] {-1, MIN, MAX}) {
            Due.due(14, "law " + i, x.gains(i, 0, 0, 0), -1);
            Due.due(14, "bow " + i, x.gains(0, i, 0, 0), -1);
            Due.due(14, "t " + i, x.gains(0, 0, i, 0), -1);
            Due.due(14, "what " + i, x.gains(0, 0, 0, i), -1);
        }
        Due.due(14, "law 4", x.gains(4, 0, 0, 0), -1);
        Due.due(14, "bow 2", x.gains(0, 2, 0, 0), -1);
        Due.due(14, "t 4", x.gains(0, 0, 4, 0), -1);
        Due.due(14, "what 4", x.gains(0, 0, 0, 4), -1);
    }
}
