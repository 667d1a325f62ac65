/** Promises 1 to 8 and 45: the tape, the text, its FAULTS and what it tells. */
public final class ReadingTest {
    public static void main(String[] args) {
        newObject();
        tape();
        tokens();
        syntax();
        room();
        laterFaults();
        order();
        replacing();
        leftovers();
        alikeNames();
        toldFiddles();
        toldPeople();
        toldSittings();
        counts();
        Due.end();
    }

    private static void newObject() {
        BlindFiddles x = new BlindFiddles();
        Due.due(1, "NONE", BlindFiddles.NONE, -1);
        for (int what = 0; what <= 6; what++) {
            Due.due(1, "count(" + what + ")", x.count(what), 0);
        }
        for (int what = 7; what <= 20; what++) {
            Due.due(1, "count(" + what + ")", x.count(what), -1);
        }
        Due.due(1, "place()", x.place(), -1);
        Due.due(1, "fiddle(0, 0)", x.fiddle(0, 0), -1);
        Due.due(1, "person(0, 0)", x.person(0, 0), -1);
        Due.due(1, "sitting(0, 0, 0)", x.sitting(0, 0, 0), -1);
        Due.due(1, "fact(0, 0)", x.fact(0, 0), -1);
        Due.due(1, "say(0)", x.say(0), 0);
        BlindFiddles y = new BlindFiddles();
        y.feed(1, 2, 3, 4, 5);
        Due.due(1, "count(6) of another", x.count(6), 0);
    }

    private static void tape() {
        BlindFiddles x = new BlindFiddles();
        Due.due(3, "back(0)", x.back(0), 0);
        Due.due(3, "back(1)", x.back(1), -1);
        for (int i = 1; i <= 100; i++) {
            Due.due(2, "feed " + i, x.feed(538976288, 538976288, 538976288, 538976288, 538976288), 20 * i);
        }
        Due.due(2, "feed 101", x.feed(1, 2, 3, 4, 5), -1);
        Due.due(2, "count(6)", x.count(6), 2000);
        Due.due(3, "back(-1)", x.back(-1), -1);
        Due.due(3, "back(2001)", x.back(2001), -1);
        Due.due(3, "back(MIN)", x.back(Integer.MIN_VALUE), -1);
        Due.due(3, "back(MAX)", x.back(Integer.MAX_VALUE), -1);
        Due.due(3, "count(6)", x.count(6), 2000);
        Due.due(3, "back(19)", x.back(19), 1981);
        Due.due(2, "feed", x.feed(1, 2, 3, 4, 5), -1);
        Due.due(3, "back(1)", x.back(1), 1980);
        Due.due(2, "feed", x.feed(538976288, 538976288, 538976288, 538976288, 538976288), 2000);
        Due.due(4, "read()", x.read(), 0);
        Due.due(4, "count(6)", x.count(6), 0);
        Due.due(3, "back(1)", x.back(1), -1);
        // "bow a 1 2 3;" with its bytes from the highest of each down
        Due.due(2, "feed", x.feed(0x626f7720, 0x61203120, 0x3220333b, 0x20202020, 0x20202020), 20);
        Due.due(3, "back(20)", x.back(20), 0);
        Due.due(2, "feed", x.feed(0x626f7720, 0x61203120, 0x3220333b, 0x20202020, 0x20202020), 20);
        Due.due(4, "read()", x.read(), 0);
        Due.due(2, "count(2)", x.count(2), 1);
        Due.due(2, "feed of high bytes", x.feed(-1, -128, 0, Integer.MIN_VALUE, Integer.MAX_VALUE), 20);
        Due.due(4, "read()", x.read(), 1);
        Due.due(5, "place()", x.place(), 0);
        Due.due(4, "count(2)", x.count(2), 1);
        Due.due(4, "read() of nothing", x.read(), 0);
        Due.due(5, "place()", x.place(), -1);
        Due.due(4, "count(2)", x.count(2), 0);
    }

    private static void tokens() {
        Due.fault("", 0, -1);
        Due.fault(" \t\n\r ", 0, -1);
        Due.fault("fiddle\ta\nold\r1 2 3;", 0, -1);
        Due.fault("fiddle a old 1 2 3barred;bow b-1-2-3;", 0, -1);
        Due.fault("fiddle a old1 2 3;", 0, -1);
        Due.fault("fiddle a new 0001 02 003 ;", 0, -1);
        Due.fault("fiddle abcdefgh new 1 2 3;", 0, -1);
        Due.fault("fiddle abcdefghi new 1 2 3;", 1, 7);
        Due.fault("fiddle a new 00001 2 3;", 1, 13);
        Due.fault("fiddle a new 1 2 12345;", 1, 17);
        Due.fault("fiddlea new 1 2 3;", 1, 0);
        Due.fault("fiddle A new 1 2 3;", 1, 7);
        Due.fault("fiddle a_ new 1 2 3;", 1, 8);
        Due.fault("fiddle a\013new 1 2 3;", 1, 8);
        Due.fault("fiddle a new 1 2 3;\0", 1, 19);
        Due.fault("fiddle \u00e9 new 1 2 3;", 1, 7);
        Due.fault("law l = 1; .", 1, 11);
        Due.fault("law l = [1==1];", 0, -1);
        Due.fault("law l = [1= =1];", 1, 10);
        Due.fault("law l = [1===1];", 1, 12);
        Due.fault("law l = [1==", 1, 12);
        Due.fault("law l = [1=", 1, 10);
        Due.fault("law l == 1;", 1, 6);
        Due.fault("law l =1;law m=(1)*[1<2]-3+4;", 0, -1);
        for (String word : Oracle.WORDS) {
            Due.fault("bow " + word + " 1 1 1;", 1, 4);
            Due.fault("bow " + word + "x 1 1 1;", 0, -1);
        }
        Due.fault("bow o 1 1 1; bow ol 1 1 1; bow ld 1 1 1; bow playe 1 1 1;", 0, -1);
    }

    private static void syntax() {
        Due.fault("fiddle a", 1, 8);
        Due.fault("fiddle a  ", 1, 10);
        Due.fault(";", 1, 0);
        Due.fault("a", 1, 0);
        Due.fault("fiddle ;", 1, 7);
        Due.fault("fiddle a 1", 1, 9);
        Due.fault("fiddle a seen 1 2 3;", 1, 9);
        Due.fault("fiddle a old 1 2;", 1, 16);
        Due.fault("fiddle a old 1 2 3 4;", 1, 19);
        Due.fault("fiddle a old 1 2 -3;", 1, 17);
        Due.fault("fiddle a old 1 2 3 barred barred;", 1, 26);
        Due.fault("fiddle a old 1 2 3 barred", 1, 25);
        Due.fault("player p 1 2 3;", 1, 14);
        Due.fault("player p 1 2 3 4 barred;", 1, 17);
        Due.fault("hearer 1 2 3 4;", 1, 7);
        Due.fault("bow b 1 - - 2 3;", 1, 10);
        Due.fault("bow b 1 +2 3;", 1, 8);
        Due.fault("bow b 1 2 3 4;", 1, 12);
        Due.fault("law l 1;", 1, 6);
        Due.fault("law l = ;", 1, 8);
        Due.fault("law l = -1;", 1, 8);
        Due.fault("law l = 1 +;", 1, 11);
        Due.fault("law l = 1 2;", 1, 10);
        Due.fault("law l = a;", 1, 8);
        Due.fault("law l = barred;", 1, 8);
        Due.fault("law l = new;", 1, 8);
        Due.fault("law l = 1 < 2;", 1, 10);
        Due.fault("law l = 1 == 2;", 1, 10);
        Due.fault("law l = (1 < 2);", 1, 11);
        Due.fault("law l = [1];", 1, 10);
        Due.fault("law l = [1 < 2 < 3];", 1, 15);
        Due.fault("law l = [1 < 2);", 1, 14);
        Due.fault("law l = (1];", 1, 10);
        Due.fault("law l = ();", 1, 9);
        Due.fault("law l = (1;", 1, 10);
        Due.fault("law l = [1 < 2;", 1, 14);
        Due.fault("law l = 1);", 1, 9);
        Due.fault("law l = 1];", 1, 9);
        Due.fault("law l = 1 * * 2;", 1, 12);
        Due.fault("law l = (1)(2);", 1, 11);
        Due.fault("law l = bright bright;", 1, 15);
        Due.fault("plan x { } ;", 1, 11);
        Due.fault("plan x {", 1, 8);
        Due.fault("plan x ;", 1, 7);
        Due.fault("plan x { fiddle", 1, 9);
        Due.fault("plan x { sit p : a; }", 1, 15);
        Due.fault("plan x { sit p with b seen seen : a; }", 1, 27);
        Due.fault("plan x { sit p with b : ; }", 1, 24);
        Due.fault("plan x { sit p with b : a b; }", 1, 26);
        Due.fault("plan x { sit p with b : a,; }", 1, 26);
        Due.fault("plan x { sit p with b : a }", 1, 26);
        Due.fault("plan x { sit with with b : a; }", 1, 13);
        Due.fault("sit p with b : a;", 1, 0);
    }

    private static String times(int many, String form) {
        StringBuilder text = new StringBuilder();
        for (int i = 0; i < many; i++) {
            text.append(form.replace("#", "" + (char) ('a' + i / 26) + (char) ('a' + i % 26)));
        }
        return text.toString();
    }

    private static void room() {
        String[] forms = {"fiddle f# old 1 1 1;", "bow b# 1 1 1;", "law l# = 1;", "plan p# { }", "hearer h# 1 1 1 1;"};
        int[] most = {8, 4, 6, 4, 10};
        for (int i = 0; i < forms.length; i++) {
            int width = forms[i].length() + 1;
            Due.fault(times(most[i], forms[i]), 0, -1);
            Due.fault(times(most[i] + 1, forms[i]), 2, most[i] * width);
            String first = forms[i].substring(0, forms[i].indexOf(' '));
            Due.fault(times(most[i], forms[i]) + first, 2, most[i] * width);
            Due.fault(times(most[i], forms[i]) + first + "x", 1, most[i] * width);
        }
        String players = times(5, "player p# 1 1 1 1;");
        String hearers = times(5, "hearer h# 1 1 1 1;");
        Due.fault(players + hearers, 0, -1);
        Due.fault(players + hearers + " player z", 2, players.length() + hearers.length() + 1);
        Due.fault(players + hearers + " hearer z", 2, players.length() + hearers.length() + 1);
        String all = "fiddle a old 1 1 1;fiddle b old 1 1 1;fiddle c old 1 1 1;fiddle d old 1 1 1;"
                + "fiddle e old 1 1 1;fiddle f old 1 1 1;fiddle g old 1 1 1;player p 1 1 1 1;bow w 0 0 0;";
        Due.fault(all + "plan x{" + times(12, "sit p with w:a;") + "}", 0, -1);
        Due.fault(all + "plan x{" + times(13, "sit p with w:a;") + "}", 2, all.length() + 7 + 12 * 15);
        Due.fault(all + "plan x{" + times(12, "sit p with w:a;") + "}plan y{" + times(12, "sit p with w:a;") + "}",
                0, -1);
        Due.fault(all + "plan x{sit p with w:a,b,c,d,e,f;}", 0, -1);
        Due.fault(all + "plan x{sit p with w:a,b,c,d,e,f,g;}", 2, all.length() + 32);
        Due.fault(all + "plan x{sit p with w:a,b,c,d,e,f,;}", 1, all.length() + 32);
        Due.fault(all + "plan x{sit p with w:a,a,a,a,a,a,zz;}", 2, all.length() + 32);
        Due.fault("law l = ([([([1<2])<3])<4]);", 0, -1);
        Due.fault("law l = ((((((1))))));", 0, -1);
        Due.fault("law l = (((((((1)))))));", 2, 14);
        Due.fault("law l = [[[[[[1<1]<1]<1]<1]<1]<1];", 0, -1);
        Due.fault("law l = [[[[[[[1<1]<1]<1]<1]<1]<1]<1];", 2, 14);
        Due.fault("law l = ([([([1<2])<3])<(4)]);", 0, -1);
        Due.fault("law l = ([([([(1)<2])<3])<(4)]);", 2, 14);
        Due.fault("law l = (1)+(1)+(1)+(1)+(1)+(1)+(1)+(1);", 0, -1);
        Due.fault("law l = (((((([", 2, 14);
        tokenRoom();
    }

    private static void tokenRoom() {
        // 'law' 'l' '=' 1 {'+' 1} ';'
        Due.fault("law l=1" + "+1".repeat(197) + ";bow", 1, 405);
        Due.fault("law l=1" + "+1".repeat(197) + ";", 0, -1);
        Due.fault("bow b-1 1 1;law l=1" + "+1".repeat(193) + ";plan x{", 2, 412);
        Due.fault("bow b-1 1 1;law l=1" + "+1".repeat(193) + ";plan x", 1, 412);
        String full = "plan x{}law l=1" + "+1".repeat(195) + ";";
        Due.fault(full, 0, -1);
        // 399 TOKENS; the next two are the 400th and the 401st
        Due.fault(full + "bow b", 2, full.length() + 4);
        Due.fault(full + "bow bow", 1, full.length() + 4);
        Due.fault(full + "bow ?", 1, full.length() + 4);
        Due.fault(full + "bow", 1, full.length() + 3);
        Due.fault(full + "bow ", 1, full.length() + 4);
        String exact = "plan x{}bow b 1 1 1;law l=1" + "+1".repeat(192) + ";";
        Due.fault(exact, 0, -1);
        Due.fault("law m=1*(1" + "+1".repeat(197) + ");", 2, 403);
        Due.fault("law m=1*(1" + "+1".repeat(196) + ");", 2, 403);
        Due.fault("law m=1*1" + "+1".repeat(196) + ";", 0, -1);
    }

    private static void laterFaults() {
        Due.fault("fiddle a old 20 20 20;", 0, -1);
        Due.fault("fiddle a old 21 0 0;", 5, 13);
        Due.fault("fiddle a old 0 21 0;", 5, 15);
        Due.fault("fiddle a old 0 0 9999 barred;", 5, 17);
        Due.fault("player a 9 9 9 9;", 0, -1);
        Due.fault("player a 10 0 0 0;", 5, 9);
        Due.fault("player a 0 10 0 0;", 5, 11);
        Due.fault("player a 0 0 10 0;", 5, 13);
        Due.fault("hearer a 0 0 0 10;", 5, 15);
        Due.fault("bow a -9 9 -9;", 0, -1);
        Due.fault("bow a 10 0 0;", 5, 6);
        Due.fault("bow a 0 - 10 0;", 5, 10);
        Due.fault("bow a 0 0 -0010;", 5, 11);
        Due.fault("law a = 9999 + bright;", 0, -1);
        String ahead = "fiddle a old 0 0 0;player p 0 0 0 0;bow w 0 0 0;law l = 1;plan x { }";
        for (String name : new String[] {"a", "p", "w", "l", "x"}) {
            Due.fault(ahead + "fiddle " + name + " new 1 1 1;", 3, ahead.length() + 7);
            Due.fault(ahead + "player " + name + " 1 1 1 1;", 3, ahead.length() + 7);
            Due.fault(ahead + "hearer " + name + " 1 1 1 1;", 3, ahead.length() + 7);
            Due.fault(ahead + "bow " + name + " 1 1 1;", 3, ahead.length() + 4);
            Due.fault(ahead + "law " + name + " = 1;", 3, ahead.length() + 4);
            Due.fault(ahead + "plan " + name + " { }", 3, ahead.length() + 5);
            Due.fault(ahead + "plan y { sit " + name + " with w : a; }", name.equals("p") ? 0 : 4,
                    name.equals("p") ? -1 : ahead.length() + 13);
            Due.fault(ahead + "plan y { sit p with " + name + " : a; }", name.equals("w") ? 0 : 4,
                    name.equals("w") ? -1 : ahead.length() + 20);
            Due.fault(ahead + "plan y { sit p with w : " + name + "; }", name.equals("a") ? 0 : 4,
                    name.equals("a") ? -1 : ahead.length() + 24);
        }
        Due.fault(ahead + "plan y{sit p with w:a,a;}", 3, ahead.length() + 22);
        Due.fault(ahead + "plan y{sit p with w:a;sit p with w:a;}", 0, -1);
        Due.fault(ahead + "plan y{sit p with w:a,y;}", 4, ahead.length() + 22);
        Due.fault(ahead + "plan y{sit q with w:a;}player q 1 1 1 1;", 4, ahead.length() + 11);
        Due.fault("plan x{sit p with w:a;}" + "fiddle a old 0 0 0;player p 0 0 0 0;bow w 0 0 0;", 4, 11);
    }

    /** FAULTS 3 to 5 come only if there is none of 1 and 2, and all by their place. */
    private static void order() {
        Due.fault("fiddle a old 99 0 0; fiddle a new 0 0 0; ;", 1, 41);
        Due.fault("fiddle a old 99 0 0; fiddle a new 0 0 0;", 5, 13);
        Due.fault("fiddle a old 9 0 0; fiddle a new 0 99 0;", 3, 27);
        Due.fault("bow a 99 0 0;bow b 0 0 0;bow c 0 0 0;bow d 0 0 0;bow e 0 0 0;", 2, 49);
        Due.fault("bow a 0 0 0;bow b 0 0 0;bow c 0 0 0;bow d 0 0 0; ; bow e 0 0 0;", 1, 49);
        Due.fault("bow a 0 0 0;bow b 0 0 0;bow c 0 0 0;bow d 0 0 0; bow ;", 2, 49);
        Due.fault("plan x{sit q with v:d,d;}", 4, 11);
        Due.fault("player p 0 0 0 0;plan x{sit p with v:d,d;}", 4, 35);
        Due.fault("player p 0 0 0 0;bow v 0 0 0;plan x{sit p with v:d,d;}", 4, 49);
    }

    private static void replacing() {
        BlindFiddles x = Due.told("fiddle a old 1 2 3; fiddle b new 4 5 6 barred; player p 1 2 3 4; law l = 7;");
        x.mark(0, 1, 50, 0, false);
        Due.due(4, "read() with a FAULT", Due.tell(x, "fiddle a old 1 2 3; bow b 1 1 x;"), 1);
        Due.due(5, "place()", x.place(), 30);
        Due.due(5, "place() once more", x.place(), 30);
        x.feed(0, 0, 0, 0, 0);
        Due.due(5, "place() behind feed", x.place(), 30);
        Due.due(4, "count(6)", x.count(6), 20);
        x.back(20);
        Due.due(4, "count(0)", x.count(0), 2);
        Due.due(4, "count(2)", x.count(2), 0);
        Due.due(4, "fiddle(1, 4)", x.fiddle(1, 4), 1);
        Due.due(4, "mean(1, false, 1, 0)", x.mean(1, false, 1, 0), 50);
        Due.due(4, "read()", Due.tell(x, "fiddle c new 9 9 9; player q 5 5 5 5;"), 0);
        Due.due(5, "place()", x.place(), -1);
        Due.due(4, "count(0)", x.count(0), 1);
        Due.due(4, "count(3)", x.count(3), 0);
        Due.due(4, "fiddle(0, 1)", x.fiddle(0, 1), 9);
        Due.due(4, "fiddle(1, 1)", x.fiddle(1, 1), -1);
        Due.due(4, "FACTS stay", x.count(5), 1);
        Due.due(4, "fact(0, 2)", x.fact(0, 2), 1);
        Due.due(4, "say(1) without the FIDDLE", x.say(1), 0);
        Due.due(4, "spot(1, 0, 1)", x.spot(1, 0, 1), 0);
        Due.due(4, "read()", Due.tell(x, "fiddle a old 1 1 1; fiddle b old 1 1 1; hearer p 1 1 1 1;"), 0);
        Due.due(4, "mean(1, true, 1, 0)", x.mean(1, true, 1, 0), 50);
        Due.due(4, "mean(1, false, 1, 1)", x.mean(1, false, 1, 1), 0);
        Due.due(4, "say(1) of a hearer", x.say(1), 0);
        Due.due(4, "read()", Due.tell(x, "fiddle a old 1 1 1; fiddle b old 1 1 1; player p 1 1 1 1;"), 0);
        Due.due(4, "say(1) of a player", x.say(1), 64);
        Due.due(4, "read()", Due.tell(x, "fiddle a old 1 1 1; fiddle b new 1 1 1; player p 1 1 1 1;"), 0);
        Due.due(4, "say(1) of a new one", x.say(1), 128);
    }

    /** Nothing of a text ahead is left, neither on the tape nor in what is told. */
    private static void leftovers() {
        BlindFiddles x = new BlindFiddles();
        String[] whole = {"law lxyzxyzxyz", "law l=12345", "law l==", "law l =1;bow x"};
        int[] gone = {9, 4, 1, 5};
        int[] places = {5, 7, 6, -1};
        for (int i = 0; i < whole.length; i++) {
            Due.feed(x, whole[i]);
            x.back(gone[i]);
            Due.due(4, "read() of what is left of " + whole[i], x.read(), places[i] < 0 ? 0 : 1);
            Due.due(5, "place() of what is left of " + whole[i], x.place(), places[i]);
        }
        String full = "fiddle a old 1 1 1 barred;fiddle b old 1 1 1;player p 1 1 1 1;hearer q 1 1 1 1;bow w 0 0 0;"
                + "bow v 0 0 0;law l=bright;law m=1;plan x{sit p with w seen:a,b;sit p with w:a,b;sit p with w:a;}"
                + "plan y{sit p with v:a;}";
        String little = "fiddle a new 1 1 1;player p 1 1 1 1;bow w 0 0 0;law l=7;plan x{sit p with w:a;}";
        for (int i = 0; i < 2; i++) {
            Due.tell(x, full);
        }
        for (int i = 0; i < 2; i++) {
            Due.due(4, "read() of " + little, Due.tell(x, little), 0);
            for (int what = 0; what < 5; what++) {
                Due.due(45, "count(" + what + ")", x.count(what), 1);
            }
            Due.due(45, "count(10)", x.count(10), 1);
            Due.due(45, "count(11)", x.count(11), -1);
            Due.due(8, "sitting(0, 0, 2)", x.sitting(0, 0, 2), 0);
            Due.due(8, "sitting(0, 0, 3)", x.sitting(0, 0, 3), 1);
            Due.due(6, "fiddle(0, 4)", x.fiddle(0, 4), 0);
            Due.due(9, "liking", x.liking(0, 0, 0, 0, false, 0, 0), 7);
            Due.due(11, "takes", x.takes(0, 0, 7, 0), 1);
            Due.due(12, "run", x.run(0, 0, 0, 7), 2);
            Due.due(12, "count(5)", x.count(5), 2 * i + 2);
            Due.due(41, "parts", x.parts(0, 0, 0, 7), 0);
        }
        String apart = "fiddle a new 1 5 1;fiddle b old 5 1 1;player p 1 1 1 1;bow w 0 0 0;law l=bright;law m=loud;";
        for (int i = 0; i < 2; i++) {
            Due.tell(x, apart + "plan x{sit p with w:a,b;sit p with w:a,b;}");
        }
        Due.tell(x, apart + "plan x{sit p with w:a,b;}");
        Due.due(41, "parts of the one SITTING", x.parts(0, 0, 1, 7), 1);
        Due.due(11, "takes of the one SITTING", x.takes(0, 0, 7, -1), 1);
        // A text that ends within brackets, or with FAULTS 3 to 5, leaves nothing for the next.
        Due.due(4, "read()", Due.tell(x, "law l = 1+2*[3+4*((5"), 1);
        Due.due(4, "read()", Due.tell(x, "bow l 99 99 99;bow l 1 1 1;"), 5);
        Due.due(4, "read()", Due.tell(x, "law l = ((((((1))))));bow k 1 1 1;"), 0);
        Due.due(4, "read()", Due.tell(x, "law l = 1+2;bow k 1 1 1;fiddle f old 1 1 1;player p 1 1 1 1;"), 0);
        Due.due(9, "liking", x.liking(0, 0, 0, 0, false, 0, 0), 3);
    }

    private static void alikeNames() {
        Due.fault("bow ab 0 0 0;bow ba 0 0 0;bow a 0 0 0;bow aa 0 0 0;", 0, -1);
        Due.fault("bow abcdefgh 0 0 0;bow abcdefgi 0 0 0;bow bbcdefgh 0 0 0;bow abcdefgh 0 0 0;", 3, 61);
        Due.fault("bow z 0 0 0;bow zzzzzzzz 0 0 0;bow zzzzzzz 0 0 0;bow z 0 0 0;", 3, 53);
        for (String word : Oracle.WORDS) {
            Due.fault("bow z" + word.substring(1) + " 1 1 1;", 0, -1);
            Due.fault("bow " + word.substring(0, word.length() - 1) + "z 1 1 1;", 0, -1);
            Due.fault("bow " + word.substring(1) + " 1 1 1;", 0, -1);
        }
    }

    private static void toldFiddles() {
        BlindFiddles x = Due.told("fiddle a old 1 20 3; fiddle b new 0 5 16 barred;");
        int[][] rows = {{1, 1, 20, 3, 0}, {0, 0, 5, 16, 1}};
        for (int i = 0; i < 2; i++) {
            for (int what = 0; what < 5; what++) {
                Due.due(6, "fiddle(" + i + ", " + what + ")", x.fiddle(i, what), rows[i][what]);
            }
            Due.due(6, "fiddle(" + i + ", -1)", x.fiddle(i, -1), -1);
            Due.due(6, "fiddle(" + i + ", 5)", x.fiddle(i, 5), -1);
        }
        for (int i : new int[] {-1, 2, 8, Integer.MIN_VALUE, Integer.MAX_VALUE}) {
            Due.due(6, "fiddle(" + i + ", 0)", x.fiddle(i, 0), -1);
        }
        Due.due(6, "fiddle(0, MAX)", x.fiddle(0, Integer.MAX_VALUE), -1);
        Due.due(6, "fiddle(0, MIN)", x.fiddle(0, Integer.MIN_VALUE), -1);
    }

    private static void toldPeople() {
        BlindFiddles x = Due.told("player a 1 2 3 4; hearer b 9 8 7 6; player c 0 0 0 5;");
        int[][] rows = {{0, 1, 2, 3, 4}, {1, 9, 8, 7, 6}, {0, 0, 0, 0, 5}};
        for (int i = 0; i < 3; i++) {
            for (int what = 0; what < 5; what++) {
                Due.due(7, "person(" + i + ", " + what + ")", x.person(i, what), rows[i][what]);
            }
            Due.due(7, "person(" + i + ", -1)", x.person(i, -1), -1);
            Due.due(7, "person(" + i + ", 5)", x.person(i, 5), -1);
        }
        for (int i : new int[] {-1, 3, 10, Integer.MIN_VALUE, Integer.MAX_VALUE}) {
            Due.due(7, "person(" + i + ", 0)", x.person(i, 0), -1);
        }
    }

    private static void toldSittings() {
        BlindFiddles x = Due.told("fiddle a old 1 1 1;fiddle b old 1 1 1;fiddle c old 1 1 1;fiddle d old 1 1 1;"
                + "fiddle e old 1 1 1;fiddle f old 1 1 1;player p 1 1 1 1;hearer h 1 1 1 1;bow v 0 0 0;bow w 0 0 0;"
                + "plan x{sit h with w seen:f,e,d,c,b,a;sit p with v:c;}plan y{}plan z{sit p with w:b,f;}");
        int[] first = {1, 1, 1, 6, -1, -1, -1, -1, -1, -1, 5, 4, 3, 2, 1, 0, -1};
        int[] second = {0, 0, 0, 1, -1, -1, -1, -1, -1, -1, 2, -1, -1, -1, -1, -1, -1};
        int[] third = {0, 1, 0, 2, -1, -1, -1, -1, -1, -1, 1, 5, -1, -1, -1, -1, -1};
        for (int what = 0; what < first.length; what++) {
            Due.due(8, "sitting(0, 0, " + what + ")", x.sitting(0, 0, what), first[what]);
            Due.due(8, "sitting(0, 1, " + what + ")", x.sitting(0, 1, what), second[what]);
            Due.due(8, "sitting(2, 0, " + what + ")", x.sitting(2, 0, what), third[what]);
            Due.due(8, "sitting(1, 0, " + what + ")", x.sitting(1, 0, what), -1);
            Due.due(8, "sitting(0, 2, " + what + ")", x.sitting(0, 2, what), -1);
            Due.due(8, "sitting(0, -1, " + what + ")", x.sitting(0, -1, what), -1);
            Due.due(8, "sitting(-1, 0, " + what + ")", x.sitting(-1, 0, what), -1);
            Due.due(8, "sitting(3, 0, " + what + ")", x.sitting(3, 0, what), -1);
        }
        Due.due(8, "sitting(0, 0, -1)", x.sitting(0, 0, -1), -1);
        Due.due(8, "sitting(0, 0, MIN)", x.sitting(0, 0, Integer.MIN_VALUE), -1);
        Due.due(8, "sitting(0, 0, MAX)", x.sitting(0, 0, Integer.MAX_VALUE), -1);
    }

    private static void counts() {
        BlindFiddles x = Due.told("fiddle a old 1 1 1;fiddle b old 1 1 1;fiddle c old 1 1 1;player p 1 1 1 1;"
                + "hearer h 1 1 1 1;bow w 0 0 0;law l=1;law m=2;law n=3;law o=4;"
                + "plan x{sit p with w:a;sit p with w:b;}plan y{}plan z{sit h with w:c;}");
        x.mark(0, 0, 1, 1, false);
        x.annul(0);
        x.feed(0, 0, 0, 0, 0);
        x.back(3);
        int[] due = {3, 2, 1, 4, 3, 2, 17, -1, -1, -1, 2, 0, 1, -1, -1};
        for (int what = 0; what < due.length; what++) {
            Due.due(45, "count(" + what + ")", x.count(what), due[what]);
        }
        Due.due(45, "count(-1)", x.count(-1), -1);
        Due.due(45, "count(MIN)", x.count(Integer.MIN_VALUE), -1);
        Due.due(45, "count(MAX)", x.count(Integer.MAX_VALUE), -1);
    }
}
