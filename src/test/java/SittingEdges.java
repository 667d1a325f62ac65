/** Boundary cases of LIKING, LOTS, SITTINGS, SETTINGS, RUN, PARTS and THE NEXT PLAN: promises 9 to 14, 41 and 42. */
final class SittingEdges {
    private static final int MIN = Edge.MIN;
    private static final int MAX = Edge.MAX;
    /** 2 to the 30. */
    private static final int BIG = 1073741824;

    private SittingEdges() {
    }

    static void hold() {
        liking();
        brackets();
        wrapping();
        lots();
        sittings();
        settings();
        barred();
        run();
        likingRefused();
        takenRefused();
        takesRefused();
        runComes();
        runRefused();
        touchRefused();
        gainsOfKinds();
        gainsRefused();
        parts();
        partsRefused();
        nextPlan();
        nextRefused();
    }

    private static void isFact(Edge edge, BlindFiddles x, int fact, long... row) {
        edge.row(x, "fact(" + fact + ", #)", 0, row);
    }

    private static void liking() {
        Edge edge = Edge.term("LIKING by a LAW: what its E says with the SOUNDS of the FIDDLE, each with the BOW's "
                + "number (and a SETTING's) more; LIKINGS and habit of the PERSON; old 1 if the FIDDLE is, else 0; "
                + "seen 1 or 0; spot: which it is in the order, from 0 on; far 1 for a hearer; noise 0 .. 9.", 9, 10,
                11, 12, 13, 14, 41, 42);
        String those = "fiddle a old 5 6 7;fiddle b new 8 2 1;player p 1 2 3 4;hearer h 5 6 7 8;bow u 0 0 0;"
                + "bow w 1 -2 9;";
        BlindFiddles x = Due.told(those + "law l=bright*100*100+loud*100+quick;"
                + "law m=warm*1000+strong*100+light*10+habit;law n=old*1000+seen*100+far*10+spot;law o=noise;"
                + "law k=bright*bright;law i=spot*10+seen*5+far*2+old;plan x{sit p with u:a,b;"
                + "sit h with u seen:b,a;}plan y{sit p with w:b,a;}");
        edge.due(x, "liking(0, 0, 0, 0, false, 0, 0)", 50607);
        edge.due(x, "liking(0, 0, 0, 1, false, 0, 0)", 60416);
        edge.due(x, "liking(0, 1, 1, 1, true, 9, 9)", 90010);
        edge.due(x, "liking(1, 0, 0, 1, true, 1, 1)", 1234);
        edge.due(x, "liking(1, 1, 0, 1, true, 1, 1)", 5678);
        edge.due(x, "liking(2, 0, 0, 0, false, 0, 0)", 1000);
        edge.due(x, "liking(2, 0, 1, 0, true, 9, 0)", 109);
        edge.due(x, "liking(2, 1, 0, 0, true, 3, 0)", 1113);
        edge.due(x, "liking(2, 1, 1, 0, false, 0, 9)", 10);
        edge.row(x, "liking(2, 0, 1, 0, false, #, 9)", 0, 0, 1, 2, 3, 4, 5, 6, 7, 8, 9);
        edge.row(x, "liking(3, 0, 0, 0, false, 9, #)", 0, 0, 1, 2, 3, 4, 5, 6, 7, 8, 9);
        // TAKEN by brightness, by age, by the spot (the later has more)
        edge.row(x, "taken(0, #, 7, 0)", 0, 1, 0, 0);
        edge.due(x, "taken(0, 5, 7, 0)", 1);
        edge.due(x, "taken(0, 5, 7, 1)", 0);
        edge.due(x, "taken(0, 2, 7, 1)", 0);
        edge.due(x, "takes(0, 0, 7, 1)", 2);
        edge.due(x, "takes(0, 2, 7, 1)", 0);
        edge.due(x, "takes(0, 5, 7, 1)", 1);
        // spot from 0 on; a is old, h is far, its SITTING seen
        edge.due(x, "run(0, 5, 2, 7)", 6);
        isFact(edge, x, 0, 0, 0, 0, 1, 0, 0);
        isFact(edge, x, 1, 1, 0, 0, 1, -1, -1);
        isFact(edge, x, 2, 0, 0, 1, 10, 1, 0);
        isFact(edge, x, 4, 0, 1, 1, 7, 0, 1);
        isFact(edge, x, 5, 0, 1, 0, 18, 1, 1);
        edge.due(x, "run(1, 4, 0, 7)", 4);
        // with w: b has 9, a 6
        isFact(edge, x, 6, 0, 0, 1, 81, 0, 0);
        isFact(edge, x, 8, 0, 0, 0, 36, 1, 0);
        // with a SETTING: 6 more or less bright; blind and at spot 0 for a player and a hearer
        edge.due(x, "touch(4, 0, 0, 1, 2, true)", 64);
        edge.due(x, "touch(4, 0, 0, 1, 2, false)", 16);
        edge.due(x, "touch(2, 0, 0, 0, 3, true)", 1000);
        edge.due(x, "touch(2, 1, 1, 0, 3, true)", 10);
        edge.row(x, "gains(4, #, 1, 0)", 0, 36 - 25, 49 - 36);
        edge.row(x, "gains(4, #, 1, 1)", 0, 81 - 64, 100 - 81);
        edge.row(x, "gains(2, 0, 3, #)", 0, 0, 0, 0, 0);
        edge.due(x, "parts(0, 0, 2, 7)", 2);
        edge.due(x, "parts(0, 2, 5, 7)", 1);
        edge.due(x, "parts(1, 2, 5, 7)", 0);
        // x parts l from m once and from n twice, y from noise; i parts both once, k none: y has fewer SITTINGS
        edge.row(x, "next(0, #, 7)", 0, 1, 0, 0, 1, 1, 1);
    }

    private static void brackets() {
        Edge edge = Edge.term("[ ] is 1 if it is so, else 0.", 9, 10, 11, 12, 13, 14, 41, 42);
        BlindFiddles x = Due.told("fiddle a old 5 0 0;fiddle b new 6 0 0;fiddle c new 7 0 0;player p 1 1 1 1;"
                + "bow u 0 0 0;law l=[bright<6]*10+[bright==6]*20+5;law m=[bright==6];law n=[bright<6];"
                + "law o=[[1<2]==1]+[[2<1]==0]*2+[[2==1]==0]*4+[0-1<0]*8+[0<0-1]*16;law k=bright;"
                + "plan y{sit p with u:c,a;}plan x{sit p with u:a,b,c;}");
        edge.row(x, "liking(0, 0, #, 0, false, 0, 0)", 0, 15, 25, 5);
        edge.row(x, "liking(1, 0, #, 0, false, 0, 0)", 0, 0, 1, 0);
        edge.row(x, "liking(2, 0, #, 0, false, 0, 0)", 0, 1, 0, 0);
        edge.due(x, "liking(3, 0, 0, 0, false, 0, 0)", 15);
        edge.row(x, "taken(1, #, 7, 0)", 0, 1, 1, 0);
        edge.row(x, "takes(1, 0, 7, #)", 0, 0, 1, 0);
        edge.due(x, "takes(1, 2, 7, 0)", 1);
        edge.due(x, "run(1, 0, 1, 7)", 6);
        isFact(edge, x, 0, 0, 0, 0, 15, 0, 0);
        isFact(edge, x, 1, 1, 0, 0, 0, -1, -1);
        isFact(edge, x, 2, 0, 0, 1, 25, 1, 0);
        isFact(edge, x, 3, 1, 0, 1, 1, -1, -1);
        isFact(edge, x, 4, 0, 0, 2, 5, 2, 0);
        isFact(edge, x, 5, 1, 0, 2, 0, -1, -1);
        edge.due(x, "touch(0, 0, 0, 0, 1, true)", 25);
        edge.due(x, "touch(0, 0, 0, 0, 1, false)", 15);
        edge.due(x, "touch(0, 0, 2, 0, 1, true)", 25);
        edge.due(x, "touch(0, 0, 2, 0, 1, false)", 5);
        edge.due(x, "gains(0, 0, 1, 0)", 10);
        edge.due(x, "gains(0, 0, 1, 1)", 20);
        edge.row(x, "parts(1, 0, #, 7)", 0, 0, 0, 1);
        edge.due(x, "parts(1, 2, 4, 7)", 1);
        edge.due(x, "next(1, 2, 7)", 0);
        edge.due(x, "next(0, 2, 7)", 1);
    }

    private static void wrapping() {
        Edge edge = Edge.term("Ints of 32 bits that wrap.", 9, 10, 11, 12, 13, 14, 41, 42);
        BlindFiddles x = Due.told("fiddle a old 1 0 0;fiddle b new 2 0 0;fiddle c new 3 0 0;fiddle d new 4 0 0;"
                + "player p 1 1 1 1;player q 1 1 1 1;bow u 0 0 0;law l=bright*1024*1024*1024;law m=bright;"
                + "law n=0-2048*1024*1024-1;law o=0-2048*1024*1024-1+1;"
                + "law k=[2048*1024*1024-1+1<0]+[4096*1024*1024==0]*2+[2048*1024*1024<1]*4+[2048*1024*1024-1<0-2]*8;"
                + "law i=9999*9999*9999*9999;plan x{sit p with u:b,a;}plan y{sit p with u:c,d;}plan z{sit p with "
                + "u:a,b,c,d;}");
        edge.row(x, "liking(0, 0, #, 0, false, 0, 0)", 0, BIG, MIN, -BIG, 0);
        edge.row(x, "liking(#, 0, 0, 0, false, 0, 0)", 2, MAX, MIN, 7, 9999 * 9999 * 9999 * 9999);
        edge.row(x, "taken(#, 0, 7, 0)", 0, 0, 3, 0);
        edge.row(x, "taken(#, 1, 7, 0)", 0, 1, 3, 3);
        edge.row(x, "takes(2, 0, 7, #)", -1, 1, 1, 0, 0, 0);
        edge.due(x, "run(2, 0, 0, 7)", 8);
        isFact(edge, x, 0, 0, 0, 0, 100, 0, 0);
        isFact(edge, x, 1, 1, 0, 0, 1, -1, -1);
        isFact(edge, x, 2, 0, 0, 1, 0, 1, 0);
        isFact(edge, x, 3, 1, 0, 1, 0, -1, -1);
        isFact(edge, x, 4, 0, 0, 2, 0, 2, 0);
        isFact(edge, x, 5, 1, 0, 2, 0, -1, -1);
        isFact(edge, x, 7, 1, 0, 3, 0, -1, -1);
        edge.due(x, "touch(0, 0, 1, 0, 1, true)", BIG);
        edge.due(x, "touch(0, 0, 1, 0, 1, false)", MIN);
        edge.due(x, "touch(0, 0, 2, 0, 1, true)", 0);
        edge.due(x, "touch(0, 0, 2, 0, 1, false)", MIN);
        edge.due(x, "touch(0, 0, 3, 0, 0, true)", 0);
        edge.due(x, "touch(2, 0, 3, 0, 3, true)", MAX);
        edge.due(x, "touch(2, 0, 3, 0, 3, false)", MAX);
        // to two players a gives nothing more, b 2 to the 30 less MIN, c 2 to the 30, d (3, 4, 5) 2 to the 30
        edge.row(x, "gains(0, 0, 1, #)", 0, 0, 2 * (3L * BIG + BIG + BIG), 0, 0);
        edge.row(x, "gains(0, 0, 0, #)", 0, 0, 0, 0, 0);
        edge.row(x, "parts(#, 0, 1, 7)", 0, 1, 0, 1);
        edge.due(x, "next(0, 1, 7)", 0);
        edge.due(x, "next(1, 1, 7)", 0);
    }

    /** SEED, then LOT 10 of which 10 * k + i: k 0 .. 11 one behind the other, i 0 .. 5. */
    private static final String[] LOTS = {
        "7 463227 904342 481443 770342 563065 390698 785032 241803 458710 283183 630738 567147",
        "0 393407 822751 909069 641658 762093 231496 926932 356827 090132 568841 393660 500779",
        "1 676578 812018 270486 696520 994578 718132 474969 298167 704986 946984 956945 191505",
        "-1 704805 148505 184084 165430 351488 673072 795011 492515 808998 482196 200101 227425",
        "-2147483648 640150 517600 834954 552301 633760 728307 077421 685312 367469 499192 668933 019684",
        "2147483647 233752 697858 673715 670765 888179 322947 080364 381282 593887 759687 993052 132730",
        "123456789 535040 542153 161685 800511 105429 279974 942867 083374 540609 459472 706865 019814",
        "-987654321 145941 164983 161399 721837 145827 421983 185666 238948 178770 510950 456204 452709",
        "1073741824 019170 144781 899926 906313 349247 487510 385235 095274 186197 295626 618134 386065",
        "-32768 756926 265690 778370 430529 438610 306921 038801 566290 945527 438190 143984 099041"};

    private static void lots() {
        Edge edge = Edge.term("LOT n of a SEED and a which: h is the SEED; for each of 11, which: h becomes (h and "
                + "it, each bit of which is in just one) times 1103515245 and 12345 more, then h and h moved 15 bits "
                + "down (zeros come in), likewise; the rest of h, moved 1 bit down likewise, by n (32 bits that "
                + "wrap).", 10, 11, 12, 41, 42);
        String those = "fiddle a old 1 1 1;fiddle b new 1 1 1;fiddle c new 1 1 1;fiddle d new 1 1 1;fiddle e new 1 1 1;"
                + "fiddle f new 1 1 1;player p 1 1 1 1;bow w 0 0 0;law l=noise;law m=9-noise;law n=old;";
        for (String lots : LOTS) {
            String[] parts = lots.split(" ");
            String seed = parts[0];
            BlindFiddles x = Due.told(those + "plan x{" + "sit p with w seen:a,b,c,d,e,f;".repeat(12) + "}plan y{}");
            edge.due(x, "run(0, 0, 0, " + seed + ")", 72);
            int[] takes = new int[6];
            int unlike = 0;
            for (int k = 0; k < 12; k++) {
                String lot = parts[k + 1];
                int greatest = 0;
                int least = 0;
                for (int i = 0; i < 6; i++) {
                    edge.due(x, "fact(" + (6 * k + i) + ", 3)", lot.charAt(i) - '0');
                    greatest = lot.charAt(i) > lot.charAt(greatest) ? i : greatest;
                    least = lot.charAt(i) < lot.charAt(least) ? i : least;
                }
                edge.due(x, "taken(0, 0, " + seed + ", " + k + ")", greatest);
                edge.due(x, "taken(0, 1, " + seed + ", " + k + ")", least);
                takes[greatest]++;
                unlike += greatest == 0 ? 0 : 1;
            }
            for (int fiddle = 0; fiddle < 6; fiddle++) {
                edge.due(x, "takes(0, 0, " + seed + ", " + fiddle + ")", takes[fiddle]);
            }
            edge.due(x, "takes(0, 0, " + seed + ", -1)", takes[0]);
            edge.due(x, "parts(0, 0, 2, " + seed + ")", unlike);
            edge.due(x, "next(0, 1, " + seed + ")", 0);
        }
        // 4 6 by SEED 7, 3 9 by 0, 6 7 by 1, 7 0 by -1: x parts noise and age, or the empty y has fewer SITTINGS
        BlindFiddles y = Due.told(those + "plan x{sit p with w:a,b;}plan y{}");
        edge.row(y, "next(0, 2, #)", -1, 1, 0, 0);
        edge.due(y, "next(0, 2, 7)", 0);
        edge.row(y, "parts(0, 0, 2, #)", -1, 0, 1, 1);
    }

    private static void sittings() {
        Edge edge = Edge.term("A SITTING k by a LAW and SEED: the FIDDLE at spot i has LIKING with noise LOT 10 of "
                + "which 10 * k + i; TAKEN is that of the greatest, of alike ones the first in the order.", 10, 11, 12,
                41, 42);
        BlindFiddles x = Due.told("fiddle a old 9 1 0;fiddle b new 5 5 0;fiddle c old 5 9 0;fiddle d new 1 9 0;"
                + "player p 1 1 1 1;bow w 0 0 0;law l=bright;law m=loud;law n=0-bright-1;law o=7;law k=noise;law i=old;"
                + "plan x{sit p with w:b,c,d,a;sit p with w:c,b,d;sit p with w:d,b,c;sit p with w:d;}"
                + "plan y{sit p with w:d,c;sit p with w:d,b,c,a;}plan z{sit p with w:b,a;}");
        // the greatest first, in the middle, last; below 0 all; alike ones: the first in the order, not by their number
        int[][] takens = {{0, 2, 1, 3}, {2, 2, 3, 3}, {3, 3, 3, 3}, {1, 2, 3, 3}};
        for (int law = 0; law < 4; law++) {
            for (int k = 0; k < 4; k++) {
                edge.due(x, "taken(0, " + law + ", 7, " + k + ")", takens[law][k]);
            }
        }
        edge.row(x, "taken(1, 1, 7, #)", 0, 3, 3);
        edge.row(x, "taken(1, 5, 7, #)", 0, 2, 2);
        // noise of SEED 7: 4 6 3 2, 9 0 4, 4 8 1, 7: which 10 * k + i
        edge.row(x, "taken(0, 4, 7, #)", 0, 2, 2, 1, 3);
        edge.row(x, "takes(0, 0, 7, #)", -1, 2, 1, 1, 1, 1);
        edge.row(x, "takes(0, 1, 7, #)", -1, 2, 0, 0, 2, 2);
        edge.row(x, "takes(0, 3, 7, #)", -1, 1, 0, 1, 1, 2);
        edge.due(x, "run(0, 4, 4, 7)", 22);
        int[] noises = {4, 6, 3, 2, 9, 0, 4, 4, 8, 1, 7};
        for (int i = 0; i < noises.length; i++) {
            edge.due(x, "fact(" + 2 * i + ", 3)", noises[i]);
            edge.due(x, "fact(" + (2 * i + 1) + ", 3)", noises[i] > 0 ? 1 : 0);
        }
        edge.due(x, "parts(0, 0, 3, 7)", 2);
        edge.due(x, "parts(0, 1, 2, 7)", 2);
        edge.due(x, "parts(0, 0, 0, 7)", 0);
        // y takes c and a, or d and d; it has fewer SITTINGS than x
        edge.due(x, "parts(1, 0, 1, 7)", 2);
        edge.due(x, "next(0, 1, 7)", 1);
        edge.due(x, "next(2, 3, 7)", 0);
    }

    private static void settings() {
        Edge edge = Edge.term("SETTINGS of t (0 .. 3): each SOUND may be put by -t .. t, by itself.", 13, 14);
        BlindFiddles x = Due.told("fiddle a old 5 6 7;fiddle b new 0 0 20;player p 1 1 1 1;bow w 0 0 0;bow v 1 1 1;"
                + "law l=bright*100-loud*10+quick;law m=[bright==7]*[loud==4]*[quick==9];"
                + "law n=[bright==4]*[loud==7]*[quick==7];law o=0-bright-loud+quick;law k=loud*loud;"
                + "law i=quick*quick;");
        edge.row(x, "touch(0, 0, 0, 0, #, true)", 0, 447, 558, 669, 780);
        edge.row(x, "touch(0, 0, 0, 0, #, false)", 0, 447, 336, 225, 114);
        edge.row(x, "gains(0, 0, #, 0)", 0, 0, 111, 222, 333);
        // 2 more, 2 less, 2 more; 1 less, 1 more, none: by itself each
        edge.row(x, "touch(1, 0, 0, 0, #, true)", 0, 0, 0, 1, 1);
        edge.row(x, "touch(2, 0, 0, 0, #, true)", 0, 0, 1, 1, 1);
        edge.row(x, "gains(1, 0, #, 0)", 0, 0, 0, 1, 1);
        edge.row(x, "gains(2, 0, #, 0)", 0, 0, 1, 1, 1);
        // below 0 and above 20, and with the BOW's number
        edge.row(x, "touch(3, 0, 1, 0, #, true)", 0, 20, 23, 26, 29);
        edge.row(x, "touch(3, 0, 1, 1, #, true)", 0, 19, 22, 25, 28);
        edge.row(x, "gains(3, 1, #, 1)", 0, 0, 3, 6, 9);
        // neither rim is the least
        edge.row(x, "touch(4, 0, 1, 0, #, false)", 0, 0, 0, 0, 0);
        edge.row(x, "touch(4, 0, 1, 1, #, false)", 0, 1, 0, 0, 0);
        edge.row(x, "touch(4, 0, 1, 1, #, true)", 0, 1, 4, 9, 16);
        edge.row(x, "touch(5, 0, 0, 0, #, true)", 0, 49, 64, 81, 100);
        edge.row(x, "touch(5, 0, 0, 0, #, false)", 0, 49, 36, 25, 16);
        edge.each(x, "touch(0, 0, 0, 0, #, true)", MIN, -1, 4, 5, MIN, MAX);
        edge.each(x, "touch(0, 0, 0, 0, #, false)", MIN, -1, 4, 5, MIN, MAX);
        edge.each(x, "gains(0, 0, #, 0)", -1, -1, 4, 5, MIN, MAX);
        // they are of one touching: what is there stays
        edge.due(x, "liking(0, 0, 0, 0, false, 0, 0)", 447);
        edge.row(x, "fiddle(0, #)", 1, 5, 6, 7);
    }

    private static final String BARRED = "fiddle a old 5 6 7;fiddle b new 8 2 1 barred;fiddle c old 1 1 1 barred;"
            + "fiddle d new 1 1 1;fiddle e new 9 9 9;player p 1 2 3 4;player q 5 0 0 0;hearer h 9 9 9 9;bow u 0 0 0;"
            + "bow w 1 -2 9;law l=bright*warm;law m=0-bright*bright;law n=7;law o=bright*old;"
            + "law k=bright*(1+seen+spot+noise);law i=bright*far;";

    private static void barred() {
        Edge edge = Edge.term("A barred FIDDLE may not be touched: what it would have gained is LOST.", 13, 14);
        BlindFiddles x = Due.told(BARRED);
        // each step is worth 1 to p and 5 to q: of a; d and e; c; b
        for (int t = 0; t <= 3; t++) {
            edge.row(x, "gains(0, 0, " + t + ", #)", 0, 6 * t, 12 * t, 6 * t, 6 * t);
        }
        // what a barred one would have
        edge.row(x, "touch(0, 0, 1, 0, #, true)", 0, 8, 9, 10, 11);
        edge.row(x, "touch(0, 0, 1, 0, #, false)", 0, 8, 7, 6, 5);
        BlindFiddles y = Due.told("fiddle a old 5 6 7 barred;player p 1 1 1 1;bow u 0 0 0;law l=bright;");
        edge.row(y, "gains(0, 0, 3, #)", 0, 0, 0, 3, 0);
        BlindFiddles z = Due.told("fiddle a new 5 6 7 barred;player p 1 1 1 1;bow u 0 0 0;law l=bright;");
        edge.row(z, "gains(0, 0, 3, #)", 0, 0, 0, 0, 3);
    }

    /** SEED 7 has noise 4 6 3 2 2 at k 0, and 9 0 at k 1. */
    private static void run() {
        Edge edge = Edge.term("RUN of a PLAN by a LAW, a LAW of guessing and a SEED: SITTING by SITTING, FIDDLE by "
                + "FIDDLE in its order: a MARK, its LIKING, held to 0 .. 100; then, if it is blind, a GUESS: old if "
                + "LIKING by the other LAW (of one and the same noise) is above 0.", 12);
        BlindFiddles x = Due.told("fiddle a old 10 0 0;fiddle b new 11 1 0;fiddle c old 0 2 0;fiddle d new 1 0 0;"
                + "fiddle e new 20 3 0;player p 1 1 1 1;hearer h 1 1 1 1;bow w 0 0 0;bow v -9 0 0;"
                + "law l=bright*10-[bright==11]*9;law m=noise;law n=loud-1;law o=noise-6;law k=bright;"
                + "plan x{sit p with w:b,d,c,a,e;sit h with v seen:c,b;}plan y{sit p with v:e,c;sit h with v:a,b;}");
        // 101 and 200 are held to 100; 100, 0 and 10 are as they are; with v those below 0 are held to 0
        edge.due(x, "run(0, 0, 2, 7)", 12);
        int[][] facts = {{0, 0, 1, 100, 0, 0}, {1, 0, 1, 0, -1, -1}, {0, 0, 3, 10, 1, 0}, {1, 0, 3, 0, -1, -1},
            {0, 0, 2, 0, 2, 0}, {1, 0, 2, 1, -1, -1}, {0, 0, 0, 100, 3, 0}, {1, 0, 0, 0, -1, -1}, {0, 0, 4, 100, 4, 0},
            {1, 0, 4, 1, -1, -1}, {0, 1, 2, 0, 0, 1}, {0, 1, 1, 20, 1, 1}};
        for (int i = 0; i < facts.length; i++) {
            for (int what = 0; what < 6; what++) {
                edge.due(x, "fact(" + i + ", " + what + ")", facts[i][what]);
            }
        }
        // of one and the same noise, both: a GUESS by noise less 6 is old where the noise is above 6
        edge.due(x, "run(0, 1, 3, 7)", 12);
        int[] noises = {4, 6, 3, 2, 2};
        for (int i = 0; i < 5; i++) {
            edge.due(x, "fact(" + (12 + 2 * i) + ", 3)", noises[i]);
            edge.due(x, "fact(" + (13 + 2 * i) + ", 3)", 0);
        }
        edge.row(x, "fact(#, 3)", 22, 9, 0);
        edge.due(x, "run(1, 1, 1, 7)", 8);
        // 4 and 6, then 9 and 0: 0 is not above 0
        edge.row(x, "fact(#, 3)", 24, 4, 1, 6, 1, 9, 1, 0, 0);
        edge.row(x, "fact(#, 1)", 24, 0, 0, 0, 0, 1, 1, 1, 1);
        edge.row(x, "fact(#, 2)", 24, 4, 4, 2, 2, 0, 0, 1, 1);
        edge.row(x, "fact(#, 4)", 24, 0, -1, 1, -1, 0, -1, 1, -1);
        // 1 is above 0, 0 and -9 are not
        edge.due(x, "run(1, 4, 4, 7)", 8);
        edge.row(x, "fact(#, 3)", 32, 11, 1, 0, 0, 1, 1, 2, 1);
        BlindFiddles y = Due.told("fiddle a old 0 0 0;player p 1 1 1 1;bow w 0 0 0;law l=100;law m=101;law n=99;"
                + "law o=0-1;law k=1;law i=0;plan x{sit p with w:a;}");
        edge.due(y, "run(0, 0, 3, 7)", 2);
        edge.row(y, "fact(#, 3)", 0, 100, 0);
        edge.due(y, "run(0, 1, 4, 7)", 2);
        edge.row(y, "fact(#, 3)", 2, 100, 1);
        edge.due(y, "run(0, 2, 5, 7)", 2);
        edge.row(y, "fact(#, 3)", 4, 99, 0);
        edge.due(y, "run(0, 3, 0, 7)", 2);
        edge.row(y, "fact(#, 3)", 6, 0, 1);
        edge.due(y, "run(0, 4, 1, 7)", 2);
        edge.row(y, "fact(#, 3)", 8, 1, 1);
        edge.due(y, "run(0, 5, 2, 7)", 2);
        edge.row(y, "fact(#, 3)", 10, 0, 1);
    }

    /** Two LAWS, two PEOPLE, three FIDDLES, two BOWS, three PLANS of which the last is empty. */
    private static final String FEW = "fiddle a old 1 1 1;fiddle b new 2 2 2;fiddle c old 3 3 3;player p 1 1 1 1;"
            + "hearer h 1 1 1 1;bow u 0 0 0;bow w 1 1 1;law l=bright;law m=0-bright;"
            + "plan x{sit p with u:a,b,c;sit h with w seen:b;}plan y{sit p with u:a;}plan z{}";

    private static void likingRefused() {
        Edge edge = Edge.promise(9, "LIKING (without a SETTING); -2147483648: no such ones, spot not 0 .. 9, noise "
                + "not 0 .. 9.");
        BlindFiddles x = Due.told(FEW);
        edge.row(x, "liking(0, 0, #, 0, false, 0, 0)", 0, 1, 2, 3);
        edge.due(x, "touch(0, 0, 2, 0, 3, true)", 6);
        edge.due(x, "liking(0, 0, 2, 0, false, 0, 0)", 3);
        edge.due(x, "liking(1, 1, 2, 1, true, 9, 9)", -4);
        edge.each(x, "liking(#, 0, 0, 0, false, 0, 0)", MIN, -1, 2, 6, MIN, MAX);
        edge.each(x, "liking(0, #, 0, 0, false, 0, 0)", MIN, -1, 2, 10, MIN, MAX);
        edge.each(x, "liking(0, 0, #, 0, false, 0, 0)", MIN, -1, 3, 8, MIN, MAX);
        edge.each(x, "liking(0, 0, 0, #, false, 0, 0)", MIN, -1, 2, 4, MIN, MAX);
        edge.each(x, "liking(0, 0, 0, 0, false, #, 0)", MIN, -1, 10, MIN, MAX);
        edge.each(x, "liking(0, 0, 0, 0, false, 0, #)", MIN, -1, 10, MIN, MAX);
        edge.each(x, "liking(0, 0, 0, 0, true, #, 9)", 1, 0, 9);
        edge.each(x, "liking(0, 0, 0, 0, true, 9, #)", 1, 0, 9);
    }

    private static void takenRefused() {
        Edge edge = Edge.promise(10, "TAKEN in a SITTING; NONE: no such ones.");
        BlindFiddles x = Due.told(FEW);
        edge.row(x, "taken(0, 0, 7, #)", 0, 2, 1);
        edge.row(x, "taken(#, 0, 7, 0)", 0, 2, 0, -1);
        edge.row(x, "taken(0, #, 7, 0)", 0, 2, 0);
        edge.each(x, "taken(0, 0, #, 0)", 2, 0, -1, MIN, MAX);
        edge.each(x, "taken(#, 0, 7, 0)", -1, -1, 3, 4, MIN, MAX);
        edge.each(x, "taken(0, #, 7, 0)", -1, -1, 2, 6, MIN, MAX);
        edge.each(x, "taken(0, 0, 7, #)", -1, -1, 2, 12, MIN, MAX);
        edge.each(x, "taken(1, 0, 7, #)", -1, -1, 1, MIN, MAX);
        edge.each(x, "taken(2, 0, 7, #)", -1, -1, 0, 1, MIN, MAX);
    }

    private static void takesRefused() {
        Edge edge = Edge.promise(11, "In how many SITTINGS of a PLAN a FIDDLE is TAKEN (NONE: any old one); -2: no "
                + "such ones.");
        BlindFiddles x = Due.told(FEW);
        edge.row(x, "takes(0, 0, 7, #)", -1, 1, 0, 1, 1);
        edge.row(x, "takes(0, 1, 7, #)", -1, 1, 1, 1, 0);
        edge.row(x, "takes(1, 0, 7, #)", -1, 1, 1, 0, 0);
        edge.row(x, "takes(2, 0, 7, #)", -1, 0, 0, 0, 0);
        edge.each(x, "takes(0, 0, #, 2)", 1, 0, -1, MIN, MAX);
        edge.each(x, "takes(0, 0, 7, #)", -2, -2, 3, 8, MIN, MAX);
        edge.each(x, "takes(2, 0, 7, #)", -2, -2, 3, 8, MIN, MAX);
        edge.each(x, "takes(#, 0, 7, 0)", -2, -1, 3, 4, MIN, MAX);
        edge.each(x, "takes(#, 0, 7, -1)", -2, -1, 3, 4, MIN, MAX);
        edge.each(x, "takes(0, #, 7, 0)", -2, -1, 2, 6, MIN, MAX);
        edge.each(x, "takes(0, #, 7, -1)", -2, -1, 2, 6, MIN, MAX);
    }

    private static void runComes() {
        Edge edge = Edge.promise(12, "RUN: how many FACTS came.");
        BlindFiddles x = Due.told(FEW);
        edge.due(x, "run(2, 0, 0, 7)", 0);
        edge.due(x, "count(5)", 0);
        edge.due(x, "run(0, 0, 0, 7)", 7);
        edge.due(x, "count(5)", 7);
        edge.due(x, "run(1, 1, 0, 7)", 2);
        edge.due(x, "count(5)", 9);
        edge.due(x, "run(2, 1, 0, MIN)", 0);
        edge.due(x, "count(5)", 9);
        edge.due(x, "run(1, 0, 0, MAX)", 2);
        edge.due(x, "fact(9, 3)", 1);
        edge.due(x, "fact(11, 0)", -1);
    }

    private static void runRefused() {
        Edge edge = Edge.promise(12, "NONE, and nothing comes: no such ones, more than 80 FACTS would be there.");
        BlindFiddles x = Due.told(FEW);
        edge.each(x, "run(#, 0, 0, 7)", -1, -1, 3, 4, MIN, MAX);
        edge.each(x, "run(0, #, 0, 7)", -1, -1, 2, 6, MIN, MAX);
        edge.each(x, "run(0, 0, #, 7)", -1, -1, 2, 6, MIN, MAX);
        edge.each(x, "run(2, #, 0, 7)", -1, -1, 2, 6, MIN, MAX);
        edge.due(x, "count(5)", 0);
        // 73 and 7 are 80
        for (int i = 0; i < 73; i++) {
            x.mark(0, 0, 1, 0, false);
        }
        edge.due(x, "run(0, 0, 0, 7)", 7);
        edge.due(x, "count(5)", 80);
        edge.each(x, "run(#, 0, 0, 7)", -1, 0, 1);
        edge.due(x, "run(2, 0, 0, 7)", 0);
        edge.due(x, "count(5)", 80);
        edge.due(x, "fact(79, 5)", 1);
        // 74 and 7 are 81: not even the first six come
        BlindFiddles y = Due.told(FEW);
        for (int i = 0; i < 74; i++) {
            y.mark(0, 0, 1, 0, false);
        }
        edge.due(y, "run(0, 0, 0, 7)", -1);
        edge.due(y, "count(5)", 74);
        edge.due(y, "fact(74, 0)", -1);
        for (int i = 74; i < 79; i++) {
            y.guess(0, 0, true);
        }
        // 79 and 2: a MARK alone would be in
        edge.due(y, "run(1, 0, 0, 7)", -1);
        edge.due(y, "count(5)", 79);
        edge.due(y, "run(2, 0, 0, 7)", 0);
        y.annul(78);
        edge.due(y, "run(1, 0, 0, 7)", -1);
        edge.due(y, "count(5)", 80);
        // a seen one is one FACT
        BlindFiddles z = Due.told(FEW.replace("plan y{sit p with u:a;}", "plan y{sit p with u seen:a;}"));
        for (int i = 0; i < 79; i++) {
            z.mark(0, 0, 1, 0, false);
        }
        edge.due(z, "run(1, 0, 0, 7)", 1);
        edge.due(z, "run(1, 0, 0, 7)", -1);
        edge.due(z, "count(5)", 80);
        BlindFiddles v = Due.told("fiddle a old 1 1 1;fiddle b old 1 1 1;fiddle c old 1 1 1;fiddle d old 1 1 1;"
                + "player p 1 1 1 1;bow u 0 0 0;law l=1;plan x{" + "sit p with u:a,b,c,d;".repeat(10) + "}plan y{"
                + "sit p with u:a,b,c,d;".repeat(10) + "sit p with u:a;}");
        edge.due(v, "run(1, 0, 0, 7)", -1);
        edge.due(v, "count(5)", 0);
        edge.due(v, "run(0, 0, 0, 7)", 80);
        edge.due(v, "run(0, 0, 0, 7)", -1);
        edge.due(v, "count(5)", 80);
    }

    private static void touchRefused() {
        Edge edge = Edge.promise(13, "The greatest (least: most false) LIKING of a FIDDLE (blind, spot 0, noise 0) "
                + "with SETTINGS of t, whether it is barred or not; -2147483648: no such ones.");
        BlindFiddles x = Due.told(BARRED);
        edge.due(x, "touch(0, 0, 0, 0, 2, true)", 7);
        edge.due(x, "touch(0, 0, 0, 0, 2, false)", 3);
        edge.due(x, "touch(0, 0, 1, 0, 2, true)", 10);
        edge.due(x, "touch(0, 0, 1, 0, 2, false)", 6);
        edge.due(x, "liking(4, 0, 0, 0, true, 9, 9)", 100);
        edge.due(x, "touch(4, 0, 0, 0, 0, true)", 5);
        edge.due(x, "touch(4, 0, 0, 0, 3, true)", 8);
        edge.due(x, "touch(5, 2, 0, 0, 3, true)", 8);
        edge.due(x, "touch(5, 1, 0, 0, 3, true)", 0);
        edge.due(x, "touch(2, 2, 4, 1, 3, false)", 7);
        for (String most : new String[] {"true", "false"}) {
            edge.each(x, "touch(#, 0, 0, 0, 1, " + most + ")", MIN, -1, 6, MIN, MAX);
            edge.each(x, "touch(0, #, 0, 0, 1, " + most + ")", MIN, -1, 3, 10, MIN, MAX);
            edge.each(x, "touch(0, 0, #, 0, 1, " + most + ")", MIN, -1, 5, 8, MIN, MAX);
            edge.each(x, "touch(0, 0, 0, #, 1, " + most + ")", MIN, -1, 2, 4, MIN, MAX);
            edge.each(x, "touch(0, 0, 0, 0, #, " + most + ")", MIN, -1, 4, MIN, MAX);
        }
    }

    private static void gainsOfKinds() {
        Edge edge = Edge.promise(14, "The sum over players of what SETTINGS of t add at most: what 0 on old FIDDLES "
                + "that are not barred, 1 on new ones, 2 LOST on old ones that are barred, 3 on new ones.");
        BlindFiddles x = Due.told(BARRED);
        edge.row(x, "gains(0, 0, 1, #)", 0, 6, 12, 6, 6);
        // -25 to -16; -1 to 0 and -81 to -64; -1 to 0; -64 to -49: to each of two players, none to the hearer
        edge.row(x, "gains(1, 0, 1, #)", 0, 2 * 9, 2 * (1 + 17), 2 * 1, 2 * 15);
        // with one more bright: -36 to -25; -4 to -1 and -100 to -81; -4 to -1; -81 to -64
        edge.row(x, "gains(1, 1, 1, #)", 0, 2 * 11, 2 * (3 + 19), 2 * 3, 2 * 17);
        edge.row(x, "gains(2, 0, 3, #)", 0, 0, 0, 0, 0);
        edge.row(x, "gains(3, 0, 3, #)", 0, 6, 0, 6, 0);
        edge.due(x, "liking(4, 0, 0, 0, true, 9, 9)", 100);
        edge.row(x, "gains(4, 0, 3, #)", 0, 6, 12, 6, 6);
        edge.row(x, "gains(5, 0, 3, #)", 0, 0, 0, 0, 0);
        for (int what = 0; what <= 3; what++) {
            edge.each(x, "gains(#, 0, 0, " + what + ")", 0, 0, 1, 2, 3, 4, 5);
        }
        BlindFiddles y = Due.told("fiddle a old 1 1 1;hearer h 1 1 1 1;bow u 0 0 0;law l=bright;");
        edge.row(y, "gains(0, 0, 3, #)", 0, 0, 0, 0, 0);
        BlindFiddles z = Due.told("player p 1 1 1 1;bow u 0 0 0;law l=bright;");
        edge.row(z, "gains(0, 0, 3, #)", 0, 0, 0, 0, 0);
    }

    private static void gainsRefused() {
        Edge edge = Edge.promise(14, "-1: no such ones.");
        BlindFiddles x = Due.told(BARRED);
        for (int what = 0; what <= 3; what++) {
            edge.each(x, "gains(#, 0, 1, " + what + ")", -1, -1, 6, MIN, MAX);
            edge.each(x, "gains(0, #, 1, " + what + ")", -1, -1, 2, 4, MIN, MAX);
            edge.each(x, "gains(0, 0, #, " + what + ")", -1, -1, 4, MIN, MAX);
        }
        edge.each(x, "gains(0, 0, 1, #)", -1, -1, 4, 5, MIN, MAX);
        edge.due(Due.told("fiddle a old 1 1 1;player p 1 1 1 1;law l=bright;"), "gains(0, 0, 1, 0)", -1);
        edge.due(Due.told("fiddle a old 1 1 1;player p 1 1 1 1;bow u 0 0 0;"), "gains(0, 0, 1, 0)", -1);
    }

    private static final String THREE = "fiddle a old 1 9 5;fiddle b old 5 1 5;fiddle c old 9 5 1;fiddle d new 3 3 3;"
            + "fiddle e new 1 1 1;player p 1 1 1 1;bow w 0 0 0;law l=bright;law m=loud;law o=0-bright;";

    private static void parts() {
        Edge edge = Edge.term("PARTS of a PLAN by two LAWS and a SEED: SITTINGS with unlike TAKEN.", 41, 42);
        // l takes c, d, b, e; m takes a, d, a, e; o takes a, e, a, e
        BlindFiddles x = Due.told(THREE + "plan x{sit p with w:a,b,c;sit p with w:d,e;sit p with w:a,b;"
                + "sit p with w:e;}plan y{}");
        edge.due(x, "parts(0, 0, 1, 7)", 2);
        edge.due(x, "parts(0, 1, 0, 7)", 2);
        edge.due(x, "parts(0, 0, 2, 7)", 3);
        edge.due(x, "parts(0, 1, 2, 7)", 1);
        edge.each(x, "parts(0, #, #, 7)", 0, 0, 1, 2);
        edge.due(x, "parts(1, 0, 1, 7)", 0);
        edge.due(x, "next(0, 1, 7)", 0);
        edge.each(x, "next(#, #, 7)", 1, 0, 1, 2);
        BlindFiddles y = Due.told(THREE + "plan x{" + "sit p with w:a,b;".repeat(12) + "}");
        edge.due(y, "parts(0, 0, 1, 7)", 12);
        edge.due(y, "parts(0, 1, 2, 7)", 0);
    }

    private static void partsRefused() {
        Edge edge = Edge.promise(41, "PARTS; NONE: no such ones.");
        BlindFiddles x = Due.told(THREE + "plan x{sit p with w:a,b;}plan y{}");
        edge.row(x, "parts(#, 0, 1, 7)", 0, 1, 0);
        edge.each(x, "parts(0, 0, 1, #)", 1, 0, -1, MIN, MAX);
        edge.each(x, "parts(#, 0, 1, 7)", -1, -1, 2, 4, MIN, MAX);
        edge.each(x, "parts(0, #, 1, 7)", -1, -1, 3, 6, MIN, MAX);
        edge.each(x, "parts(0, 0, #, 7)", -1, -1, 3, 6, MIN, MAX);
        edge.each(x, "parts(1, #, 1, 7)", -1, -1, 3, 6, MIN, MAX);
        edge.each(x, "parts(1, 0, #, 7)", -1, -1, 3, 6, MIN, MAX);
        edge.due(Due.told(THREE), "parts(0, 0, 1, 7)", -1);
    }

    private static void nextPlan() {
        Edge edge = Edge.term("THE NEXT PLAN: that with the greatest PARTS, of alike ones with the fewest SITTINGS, "
                + "the first.", 42);
        String two = "sit p with w:a,b;sit p with w:a,c;";
        String one = "sit p with w:a,b;";
        String none = "sit p with w:d;";
        // the greatest PARTS, wherever it stands and however many SITTINGS it has
        edge.due(Due.told(THREE + "plan x{" + two + "}plan y{" + one + "}plan z{}"), "next(0, 1, 7)", 0);
        edge.due(Due.told(THREE + "plan x{" + one + "}plan y{" + none + two + none + "}plan z{" + one + "}"),
                "next(0, 1, 7)", 1);
        edge.due(Due.told(THREE + "plan x{}plan y{" + one + "}plan z{" + none + "}plan v{" + two + none + none + "}"),
                "next(0, 1, 7)", 3);
        // of alike ones with the fewest SITTINGS
        edge.due(Due.told(THREE + "plan x{" + one + none + none + "}plan y{" + one + none + "}plan z{" + none + one
                + "}plan v{" + none + none + one + "}"), "next(0, 1, 7)", 1);
        edge.due(Due.told(THREE + "plan x{" + one + none + "}plan y{" + none + one + none + "}plan z{" + one + "}"),
                "next(0, 1, 7)", 2);
        edge.due(Due.told(THREE + "plan x{" + none + "}plan y{}plan z{" + none + none + "}"), "next(0, 1, 7)", 1);
        // the first
        edge.due(Due.told(THREE + "plan x{" + one + "}plan y{" + one + "}plan z{" + one + "}plan v{" + one + "}"),
                "next(0, 1, 7)", 0);
        edge.due(Due.told(THREE + "plan x{}plan y{}plan z{}plan v{}"), "next(0, 1, 7)", 0);
        edge.due(Due.told(THREE + "plan x{" + none + none + "}plan y{" + one + "}plan z{" + one + "}"),
                "next(0, 1, 7)", 1);
    }

    private static void nextRefused() {
        Edge edge = Edge.promise(42, "THE NEXT PLAN; -2: there is none; NONE: no such LAWS.");
        BlindFiddles x = Due.told(THREE);
        edge.due(x, "next(0, 1, 7)", -2);
        edge.each(x, "next(#, #, 7)", -2, 0, 1, 2);
        edge.each(x, "next(0, 1, #)", -2, 0, -1, MIN, MAX);
        edge.each(x, "next(#, 1, 7)", -1, -1, 3, 6, MIN, MAX);
        edge.each(x, "next(0, #, 7)", -1, -1, 3, 6, MIN, MAX);
        BlindFiddles y = Due.told(THREE + "plan x{}");
        edge.due(y, "next(0, 1, 7)", 0);
        edge.each(y, "next(#, 1, 7)", -1, -1, 3, 6, MIN, MAX);
        edge.each(y, "next(0, #, 7)", -1, -1, 3, 6, MIN, MAX);
    }
}
