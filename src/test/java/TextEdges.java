import java.util.List;

/** Boundary cases of the tape, the text, its FAULTS and what it tells: promises 1 to 8 and 45. */
final class TextEdges {
    private static final int MIN = Edge.MIN;
    private static final int MAX = Edge.MAX;
    private static final String BLANKS = " ".repeat(20);
    /** Seven FIDDLES, a player, a hearer and a BOW, for PLANS. */
    private static final String ALL = "fiddle a old 1 1 1;fiddle b old 1 1 1;fiddle c old 1 1 1;fiddle d old 1 1 1;"
            + "fiddle e old 1 1 1;fiddle f old 1 1 1;fiddle g old 1 1 1;player p 1 1 1 1;hearer h 1 1 1 1;bow w 0 0 0;";
    private static final int[] WRONG = {-1, MIN, MAX};

    private TextEdges() {
    }

    static void hold() {
        newObject();
        feedComes();
        feedFull();
        backGoes();
        backTooFar();
        readAndEmpty();
        placeOfLatest();
        ofFiddle();
        ofPerson();
        ofSitting();
        ofCount();
        textFull();
        tokens();
        noTokens();
        grammar();
        grammarOfPlans();
        grammarOfLaws();
        numbers();
        firstByPlace();
        syntax();
        room();
        roomOfTokens();
        twice();
        noName();
        wrong();
        faultChangesNothing();
    }

    /** feed() of a text of twenty bytes, as it is called. */
    private static String feedOf(String twenty) {
        StringBuilder call = new StringBuilder("feed(");
        for (int i = 0; i < 20; i += 4) {
            int four = 0;
            for (int j = i; j < i + 4; j++) {
                four = four << 8 | twenty.charAt(j) & 255;
            }
            call.append(i == 0 ? "" : ", ").append(four);
        }
        return call.append(')').toString();
    }

    private static void newObject() {
        Edge edge = Edge.promise(1, "Nothing is told; no FACTS.");
        BlindFiddles x = new BlindFiddles();
        edge.each(x, "count(#)", 0, 0, 1, 2, 3, 4, 5, 6);
        edge.each(x, "count(#)", -1, 10, 11, 12, 13);
        edge.due(x, "place()", -1);
        for (String call : List.of("fiddle(0, 0)", "person(0, 0)", "sitting(0, 0, 0)", "taken(0, 0, 7, 0)",
                "run(0, 0, 0, 7)", "gains(0, 0, 0, 0)", "mark(0, 0, 1, 0, false)", "guess(0, 0, true)", "annul(0)",
                "fact(0, 0)", "last(0, 0, false, 0)", "mean(0, false, 0, 0)", "beats(0, 0, 0)", "parts(0, 0, 0, 7)",
                "next(0, 0, 7)", "turned(0)", "back(1)")) {
            edge.due(x, call, -1);
        }
        edge.due(x, "takes(0, 0, 7, -1)", -2);
        edge.due(x, "liking(0, 0, 0, 0, false, 0, 0)", MIN);
        edge.due(x, "touch(0, 0, 0, 0, 0, true)", MIN);
        edge.due(x, "right(0, 0)", -1000000000);
        edge.each(x, "guesses(0, #)", 0, 0, 1, 2, 3, 4);
        for (String call : List.of("coin(0, true)", "coin(0, false)", "table(0, true)", "table(0, false)",
                "steadyWays(0)", "kinds(0, 2)", "kindWays(0, true)", "kindWays(0, false)", "flipWays(0)",
                "knowingWays(0)", "nearWays(0)")) {
            edge.due(x, call, 1);
        }
        for (String call : List.of("steady(0, 0)", "steady(0, 1)", "kinds(0, 0)", "kinds(0, 1)", "kinds(0, 3)",
                "flips(0, 0)", "flips(0, 1)", "knowing(0, 0)", "knowing(0, 1)", "knowing(0, 2)", "spot(0, 0, 0)",
                "spot(0, 9, 1)", "near(0, 0)", "near(0, 1)", "near(0, 2)", "say(0)")) {
            edge.due(x, call, 0);
        }
        for (String call : List.of("small(0)", "winner(0)", "best(0, false)", "best(0, true)")) {
            edge.due(x, call, -2);
        }
        edge.due(x, "count(5)", 0);
        edge.due(x, "back(0)", 0);
        BlindFiddles y = Due.told(ALL + "law l=1;plan x{sit p with w:a;}");
        y.run(0, 0, 0, 7);
        y.feed(1, 2, 3, 4, 5);
        edge.each(x, "count(#)", 0, 0, 1, 2, 3, 4, 5, 6);
        edge.each(new BlindFiddles(), "count(#)", 0, 0, 1, 2, 3, 4, 5, 6);
    }

    private static void feedComes() {
        Edge edge = Edge.promise(2, "Twenty bytes, the highest of a first, come behind the tape: how many it has.");
        BlindFiddles x = new BlindFiddles();
        edge.due(x, feedOf("fiddle abcdefgh old "), 20);
        edge.due(x, feedOf("1 2 3 barred;player "), 40);
        edge.due(x, "back(0)", 40);
        edge.due(x, feedOf("p 4 5 6 7;bow w 8 9 "), 60);
        edge.due(x, feedOf("-6;                 "), 80);
        edge.due(x, "count(6)", 80);
        edge.due(x, "read()", 0);
        edge.row(x, "fiddle(0, #)", 0, 1, 1, 2, 3, 1);
        edge.row(x, "person(0, #)", 0, 0, 4, 5, 6, 7);
        edge.due(x, "count(2)", 1);
        // a byte above 127 is the byte that it is, not a letter, a digit or a blank
        for (int at = 0; at < 20; at++) {
            for (int high : new int[] {128, 'a' + 128, '1' + 128, ' ' + 128, 255}) {
                StringBuilder text = new StringBuilder(BLANKS);
                text.setCharAt(at, (char) high);
                edge.due(x, feedOf(text.toString()), 20);
                edge.due(x, "read()", 1);
                edge.due(x, "place()", at);
            }
        }
    }

    private static void feedFull() {
        Edge edge = Edge.promise(2, "NONE, and nothing comes, if it would have more than 2,000.");
        BlindFiddles x = new BlindFiddles();
        for (int i = 1; i <= 99; i++) {
            edge.due(x, feedOf(BLANKS), 20 * i);
        }
        edge.due(x, feedOf("bow a 1 2 3;        "), 2000);
        edge.due(x, feedOf("????????????????????"), -1);
        edge.due(x, "count(6)", 2000);
        edge.due(x, "read()", 0);
        edge.due(x, "count(2)", 1);
        for (int i = 1; i <= 99; i++) {
            x.feed(0x20202020, 0x20202020, 0x20202020, 0x20202020, 0x20202020);
        }
        edge.due(x, feedOf(";" + BLANKS.substring(1)), 2000);
        for (int many = 1999; many > 1980; many--) {
            edge.due(x, "back(1)", many);
            edge.due(x, feedOf("????????????????????"), -1);
            edge.due(x, "count(6)", many);
        }
        edge.due(x, "read()", 1);
        edge.due(x, "place()", 1980);
        for (int i = 1; i <= 99; i++) {
            x.feed(0x20202020, 0x20202020, 0x20202020, 0x20202020, 0x20202020);
        }
        edge.due(x, feedOf(BLANKS), 2000);
        edge.due(x, "back(20)", 1980);
        edge.due(x, feedOf("bow b 1 2 3;bow c 1 "), 2000);
        edge.due(x, "read()", 1);
        edge.due(x, "place()", 2000);
    }

    private static void backGoes() {
        Edge edge = Edge.promise(3, "The last n bytes of the tape go: how many it has.");
        BlindFiddles x = new BlindFiddles();
        edge.due(x, "back(0)", 0);
        x.feed(0x626f7720, 0x61203120, 0x3220333b, 0x3f3f3f3f, 0x3f3f3f3f);
        edge.due(x, "back(0)", 20);
        edge.due(x, "back(1)", 19);
        edge.due(x, "back(7)", 12);
        edge.due(x, "read()", 0);
        edge.due(x, "count(2)", 1);
        x.feed(0x626f7720, 0x61203120, 0x3220333b, 0x3f3f3f3f, 0x3f3f3f3f);
        edge.due(x, "back(20)", 0);
        edge.due(x, "count(6)", 0);
        edge.due(x, "read()", 0);
        edge.due(x, "count(2)", 0);
        for (int i = 0; i < 100; i++) {
            x.feed(0x20202020, 0x20202020, 0x20202020, 0x20202020, 0x20202020);
        }
        edge.due(x, "back(2000)", 0);
        // what has gone is not read, not even as the end of a NAME, an INT or a ==
        String[] texts = {"law lxyzxyzxyz", "law l=12345", "law l==", "law l=1;old", "law l=1;bow w 1 1 1"};
        int[] goes = {9, 4, 1, 3, 11};
        int[] places = {5, 7, 6, -1, -1};
        for (int i = 0; i < texts.length; i++) {
            Due.feed(x, texts[i]);
            edge.due(x, "back(" + goes[i] + ")", texts[i].length() - goes[i]);
            edge.due(x, "read()", places[i] < 0 ? 0 : 1);
            edge.due(x, "place()", places[i]);
        }
    }

    private static void backTooFar() {
        Edge edge = Edge.promise(3, "NONE, and nothing goes, if it has not so many, or n is below 0.");
        BlindFiddles x = new BlindFiddles();
        edge.each(x, "back(#)", -1, 1, 2000, -1, MIN, MAX);
        edge.due(x, "count(6)", 0);
        x.feed(0x626f7720, 0x61203120, 0x3220333b, 0x20202020, 0x20202020);
        edge.each(x, "back(#)", -1, 21, 22, 2000, -1, -20, MIN, MAX);
        edge.due(x, "count(6)", 20);
        edge.due(x, "read()", 0);
        edge.due(x, "count(2)", 1);
        edge.due(x, "back(1)", -1);
    }

    private static void readAndEmpty() {
        Edge edge = Edge.promise(4, "The tape, which is empty then, is read: 0, or the number of its FAULT.");
        BlindFiddles x = new BlindFiddles();
        edge.due(x, "read()", 0);
        String[] texts = {"bow a 1 2 3;", "bow a 1 2;", "law l=(((((((1)))))));", "bow a 1 2 3;bow a 1 2 3;",
            "plan x{sit p with w:a;}", "bow a 10 2 3;"};
        for (int fault = 0; fault < texts.length; fault++) {
            Due.feed(x, texts[fault]);
            edge.due(x, "count(6)", texts[fault].length());
            edge.due(x, "read()", fault);
            edge.due(x, "count(6)", 0);
            edge.due(x, "back(1)", -1);
            edge.due(x, "count(2)", 1);
        }
        // the empty tape is a text, too: nothing is told by it
        edge.due(x, "read()", 0);
        edge.due(x, "count(2)", 0);
        edge.due(x, "place()", -1);
    }

    private static void placeOfLatest() {
        Edge edge = Edge.promise(5, "The byte of the latest read()'s FAULT; NONE without.");
        BlindFiddles x = new BlindFiddles();
        edge.due(x, "place()", -1);
        x.feed(0x3f3f3f3f, 0x3f3f3f3f, 0x3f3f3f3f, 0x3f3f3f3f, 0x3f3f3f3f);
        edge.due(x, "place()", -1);
        edge.due(x, "read()", 1);
        edge.due(x, "place()", 0);
        edge.due(x, "place()", 0);
        String[] texts = {"bow a 1 2;", "law l=(((((((1)))))));", "bow a 1 2 3;bow a 1 2 3;",
            "plan x{sit p with w:a;}", "bow a 1 2 10;", "bow a"};
        int[] places = {9, 12, 16, 11, 10, 5};
        for (int i = 0; i < texts.length; i++) {
            Due.tell(x, texts[i]);
            edge.due(x, "place()", places[i]);
            x.feed(0x3f3f3f3f, 0x3f3f3f3f, 0x3f3f3f3f, 0x3f3f3f3f, 0x3f3f3f3f);
            x.back(20);
            edge.due(x, "place()", places[i]);
        }
        edge.due(x, "read()", 0);
        edge.due(x, "place()", -1);
        Due.tell(x, "bow a");
        Due.tell(x, "bow a 1 2 3;");
        edge.due(x, "place()", -1);
    }

    private static void ofFiddle() {
        Edge told = Edge.promise(6, "Of a FIDDLE: what 0: 1 old, else 0, 1 .. 3 SOUNDS, 4: 1 barred, else 0.");
        Edge others = Edge.promise(6, "NONE for others.");
        BlindFiddles x = new BlindFiddles();
        others.due(x, "fiddle(0, 0)", -1);
        Due.tell(x, "fiddle a old 0 20 1 barred;fiddle b new 20 0 2;fiddle c old 3 4 5;fiddle d new 6 7 8 barred;"
                + "fiddle e old 0 0 0;fiddle f old 0 0 0;fiddle g old 0 0 0;");
        told.row(x, "fiddle(0, #)", 0, 1, 0, 20, 1, 1);
        told.row(x, "fiddle(1, #)", 0, 0, 20, 0, 2, 0);
        told.row(x, "fiddle(2, #)", 0, 1, 3, 4, 5, 0);
        told.row(x, "fiddle(3, #)", 0, 0, 6, 7, 8, 1);
        others.each(x, "fiddle(#, 0)", -1, -1, 7, 8, MIN, MAX);
        others.each(x, "fiddle(#, 4)", -1, -1, 7, 8, MIN, MAX);
        Due.tell(x, "fiddle a old 0 20 1;fiddle b new 0 0 0;fiddle c new 0 0 0;fiddle d new 0 0 0;"
                + "fiddle e new 0 0 0;fiddle f new 0 0 0;fiddle g new 0 0 0;fiddle h old 9 8 7 barred;");
        told.row(x, "fiddle(7, #)", 0, 1, 9, 8, 7, 1);
        others.each(x, "fiddle(#, 0)", -1, -1, 8, MIN, MAX);
        for (int fiddle = 0; fiddle < 8; fiddle += 7) {
            others.each(x, "fiddle(" + fiddle + ", #)", -1, -1, 5, 6, 10, MIN, MAX);
        }
    }

    private static void ofPerson() {
        Edge told = Edge.promise(7, "Of a PERSON: what 0: 1 a hearer, else 0, 1 .. 3 LIKINGS, 4 habit.");
        Edge others = Edge.promise(7, "NONE for others.");
        BlindFiddles x = new BlindFiddles();
        others.due(x, "person(0, 0)", -1);
        Due.tell(x, "hearer a 9 0 1 2;player b 0 9 3 4;player c 5 6 9 0;player d 0 0 0 0;player e 0 0 0 0;"
                + "player f 0 0 0 0;player g 0 0 0 0;player h 0 0 0 0;player i 0 0 0 0;");
        told.row(x, "person(0, #)", 0, 1, 9, 0, 1, 2);
        told.row(x, "person(1, #)", 0, 0, 0, 9, 3, 4);
        told.row(x, "person(2, #)", 0, 0, 5, 6, 9, 0);
        others.each(x, "person(#, 0)", -1, -1, 9, 10, MIN, MAX);
        Due.tell(x, "hearer a 9 0 1 2;player b 0 9 3 4;player c 5 6 9 0;player d 0 0 0 0;player e 0 0 0 0;"
                + "player f 0 0 0 0;player g 0 0 0 0;player h 0 0 0 0;player i 0 0 0 0;hearer j 1 2 3 9;");
        told.row(x, "person(9, #)", 0, 1, 1, 2, 3, 9);
        others.each(x, "person(#, 0)", -1, -1, 10, MIN, MAX);
        for (int person = 0; person < 10; person += 9) {
            others.each(x, "person(" + person + ", #)", -1, -1, 5, 6, 10, MIN, MAX);
        }
    }

    private static void ofSitting() {
        Edge told = Edge.promise(8, "Of a SITTING: what 0 the PERSON, 1 the BOW, 2: 1 seen, else 0, 3 how many "
                + "FIDDLES, 10 .. 15 these.");
        Edge others = Edge.promise(8, "NONE for others.");
        BlindFiddles x = new BlindFiddles();
        others.due(x, "sitting(0, 0, 0)", -1);
        Due.tell(x, ALL + "bow v 0 0 0;plan x{}plan y{sit h with v seen:f,e,d,c,b,a;sit p with w:g;}plan z{"
                + "sit p with w:a;".repeat(11) + "sit h with w:b,a;}plan u{}");
        told.row(x, "sitting(1, 0, #)", 0, 1, 1, 1, 6);
        told.row(x, "sitting(1, 0, #)", 10, 5, 4, 3, 2, 1, 0);
        told.row(x, "sitting(1, 1, #)", 0, 0, 0, 0, 1);
        told.row(x, "sitting(1, 1, #)", 10, 6);
        told.row(x, "sitting(2, 11, #)", 0, 1, 0, 0, 2);
        told.row(x, "sitting(2, 11, #)", 10, 1, 0);
        others.each(x, "sitting(1, 0, #)", -1, -1, 4, 5, 6, 7, 8, 9, 16, 17, MIN, MAX);
        others.each(x, "sitting(1, 1, #)", -1, -1, 4, 9, 11, 12, 13, 14, 15, 16, MIN, MAX);
        others.each(x, "sitting(2, 11, #)", -1, 9, 12, 16);
        others.each(x, "sitting(1, #, 0)", -1, -1, 2, 11, 12, MIN, MAX);
        others.each(x, "sitting(2, #, 0)", -1, -1, 12, MIN, MAX);
        others.each(x, "sitting(0, #, 0)", -1, -1, 0, 1, MIN, MAX);
        others.each(x, "sitting(3, #, 0)", -1, -1, 0, 1, MIN, MAX);
        others.each(x, "sitting(#, 0, 0)", -1, -1, 4, 5, MIN, MAX);
        Due.tell(x, ALL + "plan x{sit p with w:a;}plan y{sit p with w:a;}plan z{sit p with w:a;}");
        others.each(x, "sitting(#, 0, 0)", -1, -1, 3, 4, MIN, MAX);
    }

    private static void ofCount() {
        Edge told = Edge.promise(45, "0 FIDDLES, 1 PEOPLE, 2 BOWS, 3 LAWS, 4 PLANS, 5 FACTS, 6 bytes on the tape, "
                + "10 and a PLAN's number: its SITTINGS.");
        Edge others = Edge.promise(45, "NONE for others.");
        BlindFiddles x = new BlindFiddles();
        others.each(x, "count(#)", -1, -1, 7, 8, 9, 10, 11, 12, 13, 14, MIN, MAX);
        String plans = "law l=1;law m=1;law n=1;law o=1;law r=1;law s=1;plan x{" + "sit p with w:a;".repeat(12)
                + "}plan y{}";
        Due.tell(x, ALL + plans);
        x.mark(0, 0, 1, 0, false);
        x.guess(0, 0, true);
        x.annul(0);
        x.feed(1, 2, 3, 4, 5);
        x.back(3);
        told.row(x, "count(#)", 0, 7, 2, 1, 6, 2, 3, 17);
        told.row(x, "count(#)", 10, 12, 0);
        others.each(x, "count(#)", -1, -1, 7, 8, 9, 12, 13, 14, MIN, MAX);
        x.back(17);
        Due.tell(x, ALL + "hearer i 0 0 0 0;player j 0 0 0 0;hearer k 0 0 0 0;player l 0 0 0 0;hearer m 0 0 0 0;"
                + "player n 0 0 0 0;player o 0 0 0 0;player r 0 0 0 0;fiddle t new 0 0 0;"
                + "plan x{sit p with w:a;}plan y{}plan z{}plan u{sit h with w:a;sit h with w:a;}bow v 1 1 1;"
                + "bow s 1 1 1;");
        told.row(x, "count(#)", 0, 8, 10, 3, 0, 4, 3, 0);
        told.row(x, "count(#)", 10, 1, 0, 0, 2);
        others.each(x, "count(#)", -1, -1, 7, 8, 9, 14, 15, MIN, MAX);
        for (int i = 3; i < 80; i++) {
            x.annul(0);
        }
        told.due(x, "count(5)", 80);
    }

    private static void textFull() {
        Edge edge = Edge.term("A TEXT has 2,000 bytes at most.", 2, 4, 5);
        edge.fine(" ".repeat(1988) + "bow a 1 2 3;");
        edge.fault(" ".repeat(1989) + "bow a 1 2 3", 1, 2000);
        edge.fault(" ".repeat(1999) + "?", 1, 1999);
        edge.fault(" ".repeat(1999) + "a", 1, 1999);
        edge.fault("a".repeat(2000), 1, 0);
        edge.fault("bow " + "a".repeat(1996), 1, 4);
        edge.fault("bow a " + "1".repeat(1994), 1, 6);
        edge.fault("bow a" + " ".repeat(1995), 1, 2000);
        edge.fine(" ".repeat(2000));
        BlindFiddles x = new BlindFiddles();
        Due.feed(x, " ".repeat(1988) + "bow a 1 2 3;");
        edge.due(x, "count(6)", 2000);
        edge.due(x, feedOf(BLANKS), -1);
        edge.due(x, "read()", 0);
        edge.due(x, "count(2)", 1);
    }

    private static void tokens() {
        Edge edge = Edge.term("TOKENS, the longest that can be, with blanks (9, 10, 13, 32) between or not: NAMES "
                + "(letters a .. z, 8 at most, none of the words in quotes), INTS (1 to 4 digits), SIGNS "
                + "; : , = + - * < == ( ) [ ] { } .", 4, 5);
        // the longest that can be
        edge.fault("bowa 1 2 3;", 1, 0);
        edge.fault("fiddle a oldx 1 2 3;", 1, 9);
        edge.fault("bow a 1 23;", 1, 10);
        edge.fault("law l==1;", 1, 5);
        edge.fine("law l=[1==1];", "law l=[1 ==1];");
        edge.fault("law l=[1= =1];", 1, 8);
        // blanks between, ahead, behind, or none
        for (char blank : new char[] {9, 10, 13, 32}) {
            edge.fine("bow" + blank + "a 1" + blank + blank + "2 3;" + blank, blank + "bow a 1 2 3" + blank + ";");
        }
        edge.fine("bow a1 2 3;", "bow a-1-2-3;bow b 0 0 0;", "fiddle a old1 2 3barred;", "law l=bright*2+1;");
        for (int no : new int[] {0, 8, 11, 12, 14, 31, 127, 128 + 9, 128 + 10, 128 + 13, 128 + 32}) {
            edge.fault("bow a 1 2 3;" + (char) no, 1, 12);
            edge.fault("bow" + (char) no + "a 1 2 3;", 1, 3);
        }
        // letters a .. z
        for (char letter = 'a'; letter <= 'z'; letter++) {
            edge.fine("bow " + letter + " 1 2 3;", "bow " + letter + letter + " 1 2 3;");
        }
        for (int no : new int[] {'a' - 1, 'z' + 1, 'A', 'Z', '_', 'a' + 128, 'z' + 128, 0xe9, 0xff}) {
            edge.fault("bow " + (char) no + " 1 2 3;", 1, 4);
            edge.fault("bow a" + (char) no + " 1 2 3;", 1, 5);
        }
        // 8 at most
        for (int many = 1; many <= 8; many++) {
            edge.fine("bow " + "z".repeat(many) + " 1 2 3;");
        }
        edge.fault("bow zzzzzzzzz 1 2 3;", 1, 4);
        // none of the words in quotes
        for (String word : List.of("fiddle", "old", "new", "barred", "player", "hearer", "bow", "law", "plan", "sit",
                "with", "seen", "bright", "loud", "quick", "warm", "strong", "light", "habit", "spot", "far",
                "noise")) {
            edge.fault("bow " + word + " 1 2 3;", 1, 4);
            edge.fine("bow " + word + "s 1 2 3;", "bow s" + word + " 1 2 3;", "bow x" + word.substring(1) + " 1 2 3;",
                    "bow " + word.substring(0, word.length() - 1) + " 1 2 3;", "bow " + word.substring(1) + " 1 2 3;");
        }
        // 1 to 4 digits, 0 to 9
        for (String digits : List.of("0", "9", "10", "99", "000", "999", "0000", "9999", "0123", "4567", "0089")) {
            edge.fine("law l=" + digits + ";");
        }
        edge.fault("law l=12345;", 1, 6);
        edge.fault("law l=00000;", 1, 6);
        for (int no : new int[] {'0' - 1, '9' + 1, '0' + 128, '9' + 128}) {
            edge.fault("law l=" + (char) no + ";", 1, 6);
            edge.fault("law l=1" + (char) no + "1;", 1, 7);
        }
        // each SIGN is one
        edge.fine(ALL + "law l=[1<2]+[1==2]-(3*4);plan x{sit p with w:a,b;}");
    }

    private static void noTokens() {
        Edge edge = Edge.term("A longer one, all else, is no TOKEN.", 4, 5);
        // not cut into those that would fit
        edge.fault("bow abcdefghi 1 2 3;", 1, 4);
        edge.fault("bow abcdefghiold 1 2 3;", 1, 4);
        edge.fault("fiddle abcdefghold 1 2 3;", 1, 7);
        edge.fault("fiddle abcdefgh old 1 2 3;fiddleab new 1 2 3;", 1, 26);
        edge.fault("fiddlefiddle a old 1 2 3;", 1, 0);
        edge.fault("bow a 123456;", 1, 6);
        edge.fault("bow a 0001000200 0;", 1, 6);
        edge.fault("bow a 1 2 00003;", 1, 10);
        edge.fault("law l=[1===1];", 1, 10);
        // a TOKEN may not hold a blank
        edge.fault("bo w a 1 2 3;", 1, 0);
        // all else, even where all might go on
        for (int no = 0; no < 256; no++) {
            boolean isToken = no >= 'a' && no <= 'z' || no >= '0' && no <= '9' || ";:,=+-*<()[]{}".indexOf(no) >= 0;
            if (!isToken && "\t\n\r ".indexOf(no) < 0) {
                edge.fault("" + (char) no, 1, 0);
                edge.fault("law l=1 " + (char) no + " 1;", 1, 8);
            }
        }
    }

    private static void grammar() {
        Edge text = Edge.term("text: {TELL}.", 4, 5);
        text.fine("", "   ", "bow a 1 1 1;", "bow a 1 1 1;bow b 1 1 1;");
        text.fault(";", 1, 0);
        text.fault("bow a 1 1 1;;", 1, 12);
        text.fault("bow a 1 1 1; a", 1, 13);
        text.fault("1", 1, 0);
        Edge fiddle = Edge.term("TELL: 'fiddle' NAME ('old' | 'new') INT INT INT ['barred'] ';' |", 4, 5);
        fiddle.fine("fiddle a old 1 1 1;", "fiddle a new 1 1 1;", "fiddle a old 1 1 1 barred;",
                "fiddle a new 1 1 1 barred;");
        fiddle.fault("fiddle old 1 1 1;", 1, 7);
        fiddle.fault("fiddle a 1 1 1;", 1, 9);
        fiddle.fault("fiddle a old new 1 1 1;", 1, 13);
        fiddle.fault("fiddle a barred 1 1 1;", 1, 9);
        fiddle.fault("fiddle a old 1 1;", 1, 16);
        fiddle.fault("fiddle a old 1 1 barred;", 1, 17);
        fiddle.fault("fiddle a old 1 1 1 1;", 1, 19);
        fiddle.fault("fiddle a old -1 1 1;", 1, 13);
        fiddle.fault("fiddle a old 1 1 1 barred barred;", 1, 26);
        fiddle.fault("fiddle a old 1 1 1 seen;", 1, 19);
        fiddle.fault("fiddle a old 1 1 1", 1, 18);
        Edge person = Edge.term("('player' | 'hearer') NAME INT INT INT INT ';' |", 4, 5);
        for (String who : List.of("player", "hearer")) {
            person.fine(who + " a 1 1 1 1;");
            person.fault(who + " 1 1 1 1;", 1, 7);
            person.fault(who + " a 1 1 1;", 1, 14);
            person.fault(who + " a 1 1 1 1 1;", 1, 17);
            person.fault(who + " a 1 1 -1 1;", 1, 13);
            person.fault(who + " a 1 1 1 1 barred;", 1, 17);
            person.fault(who + " a 1 1 1 1", 1, 16);
            person.fault(who + " a old 1 1 1 1;", 1, 9);
        }
        Edge bow = Edge.term("'bow' NAME SINT SINT SINT ';' |", 4, 5);
        bow.fine("bow a 1 1 1;");
        bow.fault("bow 1 1 1;", 1, 4);
        bow.fault("bow a 1 1;", 1, 9);
        bow.fault("bow a 1 1 1 1;", 1, 12);
        bow.fault("bow a 1 1 1 -1;", 1, 12);
        bow.fault("bow a 1 1 1", 1, 11);
        bow.fault("bow a 1 1 -;", 1, 11);
        Edge sint = Edge.term("SINT: ['-'] INT.", 4, 5);
        sint.fine("bow a -1 -1 -1;", "bow a -0 0 - 9;", "bow a-1-1-1;");
        sint.fault("bow a --1 1 1;", 1, 7);
        sint.fault("bow a +1 1 1;", 1, 6);
        sint.fault("bow a 1- 1 1 1;", 1, 13);
        sint.fault("bow a 1 1 1-;", 1, 11);
        sint.fault("fiddle a old 1 1 -1;", 1, 17);
        Edge law = Edge.term("'law' NAME '=' E ';' |", 4, 5);
        law.fine("law a=1;");
        law.fault("law =1;", 1, 4);
        law.fault("law a 1;", 1, 6);
        law.fault("law a=;", 1, 6);
        law.fault("law a=1", 1, 7);
        law.fault("law a=1 1;", 1, 8);
        law.fault("law a=1=1;", 1, 7);
    }

    private static void grammarOfPlans() {
        Edge plan = Edge.term("'plan' NAME '{' {SIT} '}'.", 4, 5);
        plan.fine("plan x{}", "plan x{}plan y{}", ALL + "plan x{sit p with w:a;}",
                ALL + "plan x{sit p with w:a;sit h with w:b;}");
        plan.fault("plan {}", 1, 5);
        plan.fault("plan x}", 1, 6);
        plan.fault("plan x{;}", 1, 7);
        plan.fault("plan x{", 1, 7);
        plan.fault("plan x{};", 1, 8);
        plan.fault("plan x{bow a 1 1 1;}", 1, 7);
        plan.fault("plan x{plan y{}}", 1, 7);
        Edge sit = Edge.term("SIT: 'sit' NAME 'with' NAME ['seen'] ':' NAME {',' NAME} ';'.", 4, 5);
        int at = ALL.length();
        sit.fine(ALL + "plan x{sit p with w:a;}", ALL + "plan x{sit p with w seen:a;}",
                ALL + "plan x{sit p with w:a,b,c;}");
        sit.fault(ALL + "plan x{sit with w:a;}", 1, at + 11);
        sit.fault(ALL + "plan x{sit p w:a;}", 1, at + 13);
        sit.fault(ALL + "plan x{sit p with :a;}", 1, at + 18);
        sit.fault(ALL + "plan x{sit p with w seen seen:a;}", 1, at + 25);
        sit.fault(ALL + "plan x{sit p seen with w:a;}", 1, at + 13);
        sit.fault(ALL + "plan x{sit p with w barred:a;}", 1, at + 20);
        sit.fault(ALL + "plan x{sit p with w a;}", 1, at + 20);
        sit.fault(ALL + "plan x{sit p with w:;}", 1, at + 20);
        sit.fault(ALL + "plan x{sit p with w:a,;}", 1, at + 22);
        sit.fault(ALL + "plan x{sit p with w:,a;}", 1, at + 20);
        sit.fault(ALL + "plan x{sit p with w:a b;}", 1, at + 22);
        sit.fault(ALL + "plan x{sit p with w:a}", 1, at + 21);
        sit.fault(ALL + "plan x{sit p with w:a,1;}", 1, at + 22);
        sit.fault(ALL + "plan x{sit p with w:a;", 1, at + 22);
        sit.fault(ALL + "sit p with w:a;", 1, at);
    }

    private static void grammarOfLaws() {
        Edge e = Edge.term("E: PART {('+' | '-') PART}.", 4, 5);
        e.fine("law l=1;", "law l=1+1;", "law l=1-1;", "law l=1+1-1+1-1;");
        e.fault("law l=+1;", 1, 6);
        e.fault("law l=-1;", 1, 6);
        e.fault("law l=1+;", 1, 8);
        e.fault("law l=1-;", 1, 8);
        e.fault("law l=1+-1;", 1, 8);
        e.fault("law l=(1-);", 1, 9);
        Edge part = Edge.term("PART: UNIT {'*' UNIT}.", 4, 5);
        part.fine("law l=1*1;", "law l=1*1*1+1*1;");
        part.fault("law l=*1;", 1, 6);
        part.fault("law l=1*;", 1, 8);
        part.fault("law l=1**1;", 1, 8);
        part.fault("law l=1*+1;", 1, 8);
        part.fault("law l=1*-1;", 1, 8);
        Edge unit = Edge.term("UNIT: INT | VAR | '(' E ')' | '[' E ('<' | '==') E ']'.", 4, 5);
        unit.fine("law l=7;", "law l=bright;", "law l=(1);", "law l=(1+1);", "law l=[1<1];", "law l=[1==1];",
                "law l=[1+1<1*1];", "law l=[(1)<[1<1]];", "law l=([1==1])*(1);");
        unit.fault("law l=();", 1, 7);
        unit.fault("law l=[];", 1, 7);
        unit.fault("law l=[1];", 1, 8);
        unit.fault("law l=[<1];", 1, 7);
        unit.fault("law l=[1<];", 1, 9);
        unit.fault("law l=[1<1<1];", 1, 10);
        unit.fault("law l=[1<1==1];", 1, 10);
        unit.fault("law l=[1=1];", 1, 8);
        unit.fault("law l=(1<1);", 1, 8);
        unit.fault("law l=(1==1);", 1, 8);
        unit.fault("law l=1<1;", 1, 7);
        unit.fault("law l=1==1;", 1, 7);
        unit.fault("law l=(1];", 1, 8);
        unit.fault("law l=[1<1);", 1, 10);
        unit.fault("law l=(1;", 1, 8);
        unit.fault("law l=[1<1;", 1, 10);
        unit.fault("law l=1);", 1, 7);
        unit.fault("law l=1];", 1, 7);
        unit.fault("law l=)1(;", 1, 6);
        unit.fault("law l=(1)1;", 1, 9);
        unit.fault("law l=1(1);", 1, 7);
        unit.fault("law l=a;", 1, 6);
        Edge var = Edge.term("VAR: 'bright' | 'loud' | 'quick' | 'warm' | 'strong' | 'light' | 'habit' | 'old' | "
                + "'seen' | 'spot' | 'far' | 'noise'.", 4, 5);
        for (String word : List.of("bright", "loud", "quick", "warm", "strong", "light", "habit", "old", "seen",
                "spot", "far", "noise")) {
            var.fine("law l=" + word + ";", "law l=[" + word + "<" + word + "]*(" + word + ");");
            var.fault("law l=1" + word + ";", 1, 7);
        }
        for (String word : List.of("fiddle", "new", "barred", "player", "hearer", "bow", "law", "plan", "sit", "with",
                "l", "brigh", "brightx", "olds", "o")) {
            var.fault("law l=" + word + ";", 1, 6);
            var.fault("law l=1+" + word + ";", 1, 8);
        }
    }

    private static void numbers() {
        Edge edge = Edge.term("FIDDLES (old or not, three SOUNDS: bright, loud, quick; barred or not), PEOPLE "
                + "(players and hearers; three LIKINGS: warm, strong, light; a habit), BOWS (three numbers), LAWS, "
                + "PLANS are numbered each from 0 on as they stand; SITTINGS (a PERSON, a BOW, seen or blind, "
                + "FIDDLES in their order) within their PLAN.", 6, 7, 8, 9, 45);
        // told in turn, and not by their NAMES
        BlindFiddles x = Due.told("law z=bright;hearer y 1 2 3 4;fiddle x new 5 6 7 barred;bow w 9 8 7;"
                + "plan v{}player u 5 6 7 8;law t=loud;fiddle s old 1 2 3;bow r -9 -8 -7;hearer q 9 9 9 9;"
                + "law p=quick;plan o{sit u with w:x;sit q with r seen:s,x;}fiddle a new 0 0 20;law n=warm;"
                + "law m=strong;law l=light;plan k{sit y with r:a,x,s;}");
        edge.row(x, "fiddle(0, #)", 0, 0, 5, 6, 7, 1);
        edge.row(x, "fiddle(1, #)", 0, 1, 1, 2, 3, 0);
        edge.row(x, "fiddle(2, #)", 0, 0, 0, 0, 20, 0);
        edge.row(x, "person(0, #)", 0, 1, 1, 2, 3, 4);
        edge.row(x, "person(1, #)", 0, 0, 5, 6, 7, 8);
        edge.row(x, "person(2, #)", 0, 1, 9, 9, 9, 9);
        edge.row(x, "sitting(1, 0, #)", 0, 1, 0, 0, 1);
        edge.row(x, "sitting(1, 1, #)", 0, 2, 1, 1, 2);
        edge.row(x, "sitting(1, 1, #)", 10, 1, 0);
        edge.row(x, "sitting(2, 0, #)", 0, 0, 1, 0, 3);
        edge.row(x, "sitting(2, 0, #)", 10, 2, 0, 1);
        edge.due(x, "sitting(0, 0, 0)", -1);
        edge.row(x, "liking(#, 1, 0, 0, false, 0, 0)", 0, 5 + 9, 6 + 8, 7 + 7, 5, 6, 7);
        edge.row(x, "liking(#, 1, 0, 1, false, 0, 0)", 0, 5 - 9, 6 - 8, 7 - 7, 5, 6, 7);
        edge.row(x, "count(#)", 10, 0, 2, 1);
    }

    private static void firstByPlace() {
        Edge edge = Edge.term("FAULTS of a text, the first by its place (a byte; the text's end: its length), "
                + "of one place the least:", 4, 5);
        // the first by its place, of 1 and 2
        String fiveBows = "bow a 0 0 0;bow b 0 0 0;bow c 0 0 0;bow d 0 0 0;bow e 0 0 0;";
        edge.fault(fiveBows + ";", 2, 48);
        edge.fault("bow a 0 0 0;;" + fiveBows, 1, 12);
        edge.fault("law l=(((((((1?)))))));", 2, 12);
        edge.fault("law l=((((((1?((((((1)))))));", 1, 13);
        edge.fault("?????", 1, 0);
        // the text's end: its length, blanks and all
        edge.fault("bow", 1, 3);
        edge.fault("bow a 0 0 0;bow b  \n ", 1, 21);
        edge.fault("plan x{", 1, 7);
        // of one place the least
        String full = "plan x{}law l=1" + "+1".repeat(195) + ";";
        edge.fault(full + "bow c", 2, full.length() + 4);
        edge.fault(full + "bow 7", 1, full.length() + 4);
        edge.fault(full + "bow ?", 1, full.length() + 4);
        // 3 to 5 by their place too, and behind all of 1 and 2
        edge.fault("bow a 10 0 0;bow a 0 0 0;", 5, 6);
        edge.fault("bow a 0 0 0;bow a 10 0 0;", 3, 16);
        edge.fault("bow a 0 0 0;bow b 10 0 0;plan x{sit p with w:c;}", 5, 18);
        edge.fault("plan x{sit p with w:c;}bow x 10 0 0;", 4, 11);
        edge.fault("bow a 10 0 0;bow a 0 0 0;plan x{sit p with w:c;};", 1, 48);
        edge.fault("bow a 10 0 0;bow a 0 0 0;law l=(((((((", 2, 37);
        edge.fault("bow a 10 0 0;bow a 0 0 0", 1, 24);
    }

    private static void syntax() {
        Edge edge = Edge.term("1 SYNTAX: a TOKEN, or what is none, with which no text goes on.", 4, 5);
        // what is said so far, and the TOKENS with which a text goes on: each other one is a FAULT, at it
        String tell = "fiddle player hearer bow law plan";
        String vars = "bright loud quick warm strong light habit old seen spot far noise";
        String unit = "7 ( [ " + vars;
        String law = "law l = ";
        String plan = ALL + "plan x { ";
        String[][] states = {{"", tell}, {"fiddle ", "x"}, {"fiddle x ", "old new"}, {"fiddle x old ", "7"},
                {"fiddle x new 1 ", "7"}, {"fiddle x old 1 2 ", "7"}, {"fiddle x old 1 2 3 ", "barred ;"},
                {"fiddle x old 1 2 3 barred ", ";"}, {"fiddle y old 1 2 3 ; ", tell},
                {"fiddle y old 1 2 3 barred ; ", tell}, {"player ", "x"}, {"hearer ", "x"}, {"player x ", "7"},
                {"hearer x 1 ", "7"}, {"player x 1 2 ", "7"}, {"hearer x 1 2 3 ", "7"}, {"player x 1 2 3 4 ", ";"},
                {"hearer y 1 2 3 4 ; ", tell}, {"bow ", "x"}, {"bow x ", "- 7"}, {"bow x - ", "7"},
                {"bow x 1 ", "- 7"}, {"bow x 1 - ", "7"}, {"bow x 1 - 2 ", "- 7"}, {"bow x 1 2 - ", "7"},
                {"bow x 1 2 3 ", ";"}, {"bow y 1 2 - 3 ; ", tell}, {"law ", "x"}, {"law l ", "="}, {law, unit},
                {law + "1 ", "+ - * ;"}, {law + "bright ", "+ - * ;"}, {law + "1 + ", unit}, {law + "1 - ", unit},
                {law + "1 * ", unit}, {law + "( ", unit}, {law + "( 1 ", "+ - * )"}, {law + "( 1 * ", unit},
                {law + "( old ) ", "+ - * ;"}, {law + "[ ", unit}, {law + "[ 1 ", "+ - * < =="},
                {law + "[ 1 < ", unit}, {law + "[ 1 == ", unit}, {law + "[ 1 < 1 ", "+ - * ]"},
                {law + "[ 1 == old ", "+ - * ]"}, {law + "[ 1 < 1 ] ", "+ - * ;"}, {law + "( [ 1 == 1 ] ", "+ - * )"},
                {law + "[ ( 1 ) ", "+ - * < =="}, {law + "[ 1 < ( 1 ) ", "+ - * ]"},
                {law + "[ [ 1 < 1 ] ", "+ - * < =="}, {law + "[ 1 < [ 1 < 1 ", "+ - * ]"}, {law + "1 ; ", tell},
                {"plan ", "x"}, {"plan x ", "{"}, {"plan x { ", "sit }"}, {"plan y { } ", tell}, {plan + "sit ", "x"},
                {plan + "sit p ", "with"}, {plan + "sit p with ", "x"}, {plan + "sit p with w ", "seen :"},
                {plan + "sit p with w seen ", ":"}, {plan + "sit p with w : ", "x"},
                {plan + "sit p with w seen : a ", ", ;"}, {plan + "sit p with w : a , ", "x"},
                {plan + "sit p with w : a , b ", ", ;"}, {plan + "sit p with w : a ; ", "sit }"},
                {plan + "sit p with w : a ; } ", tell}};
        String[] all = ("x 7 ; : , = + - * < == ( ) [ ] { } fiddle new barred player hearer bow law plan sit with "
                + vars).split(" ");
        for (String[] state : states) {
            List<String> goOn = List.of(state[1].split(" "));
            boolean whole = goOn.contains("law");
            edge.fault(state[0], whole ? 0 : 1, whole ? -1 : state[0].length());
            edge.fault(state[0] + "? ", 1, state[0].length());
            for (String token : all) {
                int passed = goOn.contains(token) ? token.length() + 1 : 0;
                edge.fault(state[0] + token + " ?", 1, state[0].length() + passed);
            }
        }
    }

    private static String times(int many, String form) {
        StringBuilder text = new StringBuilder();
        for (int i = 0; i < many; i++) {
            text.append(form.replace("#", "" + (char) ('a' + i)));
        }
        return text.toString();
    }

    private static void room() {
        Edge first = Edge.term("a 9th fiddle, an 11th player or hearer, a 5th bow, a 7th law, a 5th plan, "
                + "a 13th sit of a PLAN (at its first TOKEN);", 4, 5);
        String[] forms = {"fiddle f# old 1 1 1;", "player p# 1 1 1 1;", "hearer h# 1 1 1 1;", "bow b# 1 1 1;",
            "law l# = 1;", "plan q#{}"};
        int[] most = {8, 10, 10, 4, 6, 4};
        for (int i = 0; i < forms.length; i++) {
            String full = times(most[i], forms[i]);
            String word = forms[i].substring(0, forms[i].indexOf(' '));
            first.fine(full);
            first.fault(times(most[i] + 1, forms[i]), 2, full.length());
            first.fault(full + " " + word, 2, full.length() + 1);
            first.fault(full + word + " ?", 2, full.length());
            first.fault(full + "?" + word, 1, full.length());
        }
        for (int players = 0; players <= 10; players++) {
            String people = times(players, forms[1]) + times(10 - players, forms[2]);
            first.fine(people);
            first.fault(people + "player q 1 1 1 1;", 2, people.length());
            first.fault(people + "hearer q 1 1 1 1;", 2, people.length());
        }
        // as many of each as there is room for, in one text
        StringBuilder most32 = new StringBuilder();
        for (int i = 0; i < forms.length; i++) {
            most32.append(times(i == 1 || i == 2 ? 5 : most[i], forms[i]));
        }
        first.fine(most32.toString());
        first.fault(most32 + "law", 2, most32.length());
        first.fine(most32.toString().replace("plan qd{}", "plan qd{sit he with bd:fh;}"));
        String plan = "plan x{" + "sit p with w:a;".repeat(12);
        first.fine(ALL + plan + "}", ALL + plan + "}plan y{" + "sit p with w:a;".repeat(6) + "}");
        first.fault(ALL + plan + "sit p with w:a;}", 2, ALL.length() + plan.length());
        first.fault(ALL + plan + "sit", 2, ALL.length() + plan.length());
        first.fault(ALL + plan + "seen", 1, ALL.length() + plan.length());
        first.fault(ALL + "plan y{sit p with w:a;}" + plan + "sit ?", 2, ALL.length() + 23 + plan.length());
        Edge order = Edge.term("a 7th FIDDLE of a sit (at its NAME);", 4, 5);
        order.fine(ALL + "plan x{sit p with w:a,b,c,d,e,f;}", ALL + "plan x{sit p with w:a,b,c,d,e,f;sit p with w:g;}");
        order.fault(ALL + "plan x{sit p with w:a,b,c,d,e,f,g;}", 2, ALL.length() + 32);
        order.fault(ALL + "plan x{sit p with w:a,b,c,d,e,f, g", 2, ALL.length() + 33);
        order.fault(ALL + "plan x{sit p with w:a,b,c,d,e,f,zz;}", 2, ALL.length() + 32);
        order.fault(ALL + "plan x{sit p with w:a,b,c,d,e,f,a;}", 2, ALL.length() + 32);
        order.fault(ALL + "plan x{sit p with w:a,b,c,d,e,f,;}", 1, ALL.length() + 32);
        order.fault(ALL + "plan x{sit p with w:a,b,c,d,e,f,7;}", 1, ALL.length() + 32);
        order.fault(ALL + "plan x{sit p with w:a,b,c,d,e,f,", 1, ALL.length() + 32);
        order.fault(ALL + "plan x{sit p with w:a;sit p with w:a,b,c,d,e,f,g;}", 2, ALL.length() + 47);
        Edge deep = Edge.term("a 7th ( or [ within one another (at it).", 4, 5);
        for (int kinds = 0; kinds < 64; kinds++) {
            StringBuilder open = new StringBuilder("law l=");
            StringBuilder close = new StringBuilder();
            for (int i = 0; i < 6; i++) {
                boolean round = (kinds >> i & 1) == 0;
                open.append(round ? '(' : '[');
                close.insert(0, round ? ")" : "<1]");
            }
            deep.fine(open + "1" + close + ";");
            deep.fault(open + "(1)" + close + ";", 2, 12);
            deep.fault(open + "[1<1]" + close + ";", 2, 12);
            deep.fault(open + "1(", 1, 13);
        }
        deep.fine("law l=((((((1))))))+((((((1))))));", "law l=(1)+(1)+(1)+(1)+(1)+(1)+(1)+(1);",
                "law l=[(((((1)))))<1];", "law l=[[1<1]<[1<[1<1]]];");
        BlindFiddles x = Due.told("fiddle a old 2 1 1;player p 1 1 1 1;bow w 0 0 0;law l=1-(1-(1-(1-(1-(1-bright)))));"
                + "law m=1+2*[0+0*3<1+2*[0+0*3<1+2*[0+0*3<1+2*[0+0*3<1+2*[0+0*3<1+2*[1+2*3<9-1*1]]]]]];");
        deep.due(x, "liking(0, 0, 0, 0, false, 0, 0)", 2);
        deep.due(x, "liking(1, 0, 0, 0, false, 0, 0)", 3);
        deep.fault("law l=(((((((", 2, 12);
        deep.fault("law l=1+(2*(3-(4+(5*(6-(7+(8)))))));", 2, 26);
        deep.fault("law l=[1<(((((1)))))+((((((1))))))];", 2, 26);
        deep.fault("law l=[1==[1==[1==[1==[1==[1==[1==1]]]]]]];", 2, 30);
    }

    private static void roomOfTokens() {
        Edge edge = Edge.term("2 ROOM: a 401st TOKEN;", 4, 5);
        // 'law' 'l' '=' 1 {'+' 1} ';': 5 TOKENS and 2 for each more; 'plan' 'x' '{' '}' are 4
        String most = "law l=1" + "+1".repeat(196) + ";";
        edge.fine(most);
        edge.fault(most + "?", 1, most.length());
        String odd = "plan x{}law l=1" + "+1".repeat(195) + ";";
        edge.fine(odd);
        // 399 are told: a 400th goes on, a 401st does not
        edge.fault(odd + "bow", 1, odd.length() + 3);
        edge.fault(odd + "bow ", 1, odd.length() + 4);
        edge.fault(odd + "bow b", 2, odd.length() + 4);
        edge.fault(odd + "bow ;", 1, odd.length() + 4);
        edge.fault(odd + "plan y{}", 2, odd.length() + 5);
        String just = "bow b-1 1 1;law l=1" + "+1".repeat(193) + ";";
        // 7 and 391 are 398: with these two 400
        edge.fault(just + "plan x", 1, just.length() + 6);
        edge.fault(just + "plan x{", 2, just.length() + 6);
        edge.fault(just + "plan x}", 1, just.length() + 6);
        // 8, 7, 4 and 381 are 400; one sign more, and the last ; is the 401st
        String exact = "bow b-1-1 1;bow c-1 1 1;plan x{}law l=1" + "+1".repeat(188) + ";";
        edge.fine(exact, exact + " \n");
        edge.fault(exact + "bow", 2, exact.length());
        edge.fault(exact + "a", 1, exact.length());
        edge.fault(exact + "?", 1, exact.length());
        String over = exact.replace("-1 1;bow", "-1-1;bow");
        edge.fault(over, 2, over.length() - 1);
        // from the = on each TOKEN is a byte: the 401st is at 403
        edge.fault("law l=1" + "+1".repeat(990), 2, 403);
        edge.fault("law l=(1" + "+1".repeat(197) + ");", 2, 403);
        edge.fault("law l=((1" + "+1".repeat(197) + "));", 2, 403);
    }

    private static void twice() {
        Edge edge = Edge.term("If there is none, likewise: 3 TWICE: a NAME told already (of all kinds); "
                + "a FIDDLE of its sit already.", 4, 5);
        String[] tells = {"fiddle # old 1 1 1;", "player # 1 1 1 1;", "hearer # 1 1 1 1;", "bow # 1 1 1;", "law #=1;",
            "plan #{}"};
        for (String one : tells) {
            for (String other : tells) {
                String ahead = one.replace("#", "a");
                edge.fault(ahead + other.replace("#", "a"), 3, ahead.length() + other.indexOf('#'));
                edge.fine(ahead + other.replace("#", "b"), ahead + other.replace("#", "aa"));
            }
        }
        edge.fine("bow abcdefgh 1 1 1;bow abcdefgi 1 1 1;", "bow bbcdefgh 1 1 1;bow abcdefgh 1 1 1;",
                "bow a 1 1 1;bow aaaaaaaa 1 1 1;bow aaaaaaa 1 1 1;");
        edge.fault("bow abcdefgh 1 1 1;bow b 1 1 1;bow abcdefgh 1 1 1;", 3, 35);
        for (char letter = 'a'; letter <= 'z'; letter++) {
            StringBuilder people = new StringBuilder();
            for (int many = 1; many <= 8; many++) {
                people.append("player ").append(("" + letter).repeat(many)).append(" 1 1 1 1;");
            }
            edge.fine(people.toString());
            edge.fault(people + "bow " + ("" + letter).repeat(8) + " 1 1 1;", 3, people.length() + 4);
            edge.fault(people + "bow " + letter + " 1 1 1;", 3, people.length() + 4);
        }
        edge.fine("bow ab 1 1 1;bow ba 1 1 1;bow abc 1 1 1;bow acb 1 1 1;");
        edge.fault("bow a 1 1 1;bow b 1 1 1;bow b 1 1 1;bow a 1 1 1;", 3, 28);
        int at = ALL.length();
        edge.fault(ALL + "plan a{}", 3, at + 5);
        edge.fault(ALL + "plan x{sit p with w:a,a;}", 3, at + 22);
        edge.fault(ALL + "plan x{sit p with w:a,b,c,d,e,a;}", 3, at + 30);
        edge.fault(ALL + "plan x{sit p with w:a,b,c,d,e,e;}", 3, at + 30);
        edge.fault(ALL + "plan x{sit p with w:a,b;sit p with w:b,a,b;}", 3, at + 41);
        edge.fine(ALL + "plan x{sit p with w:a,b;sit p with w:a,b;}plan y{sit p with w:b,a;}");
        // only if there is none of 1 and 2 in all of the text
        edge.fault("bow a 1 1 1;bow a 1 1 1;?", 1, 24);
        edge.fault("bow a 1 1 1;bow a 1 1 1", 1, 23);
        edge.fault("bow a 1 1 1;bow a 1 1 1;law l=(((((((1", 2, 36);
        edge.fault(ALL + "plan x{sit p with w:a,a;};", 1, at + 25);
    }

    private static void noName() {
        Edge edge = Edge.term("4 NAME: no PERSON (behind sit), BOW (behind with), FIDDLE (behind : and ,) told ahead.",
                4, 5);
        String ahead = ALL + "law l=1;plan k{}";
        int at = ahead.length();
        for (String name : List.of("a", "p", "h", "w", "l", "k", "x", "q")) {
            boolean person = name.equals("p") || name.equals("h");
            boolean bow = name.equals("w");
            boolean fiddle = name.equals("a");
            edge.fault(ahead + "plan x{sit " + name + " with w:b;}", person ? 0 : 4, person ? -1 : at + 11);
            edge.fault(ahead + "plan x{sit p with " + name + ":b;}", bow ? 0 : 4, bow ? -1 : at + 18);
            edge.fault(ahead + "plan x{sit p with w:" + name + ";}", fiddle ? 0 : 4, fiddle ? -1 : at + 20);
            edge.fault(ahead + "plan x{sit p with w:b," + name + ";}", fiddle ? 0 : 4, fiddle ? -1 : at + 22);
        }
        // told, but not ahead
        edge.fault(ahead + "plan x{sit z with w:b;}player z 1 1 1 1;", 4, at + 11);
        edge.fault(ahead + "plan x{sit p with z:b;}bow z 1 1 1;", 4, at + 18);
        edge.fault(ahead + "plan x{sit p with w:z;}fiddle z old 1 1 1;", 4, at + 20);
        edge.fault(ahead + "plan x{sit p with w:b,z;}fiddle z old 1 1 1;", 4, at + 22);
        edge.fault("plan x{sit z with z:z,z;}", 4, 11);
        edge.fault(ALL + "plan x{sit p with w:z,z;}", 4, ALL.length() + 20);
        // told by the text ahead is not told by this one
        BlindFiddles x = Due.told(ALL);
        Due.feed(x, "plan x{sit p with w:a;}");
        edge.due(x, "read()", 4);
        edge.due(x, "place()", 11);
    }

    private static void wrong() {
        Edge edge = Edge.term("5 WRONG (at the INT): a SOUND above 20, a LIKING or habit above 9, a BOW's number "
                + "above 9 without its sign.", 4, 5);
        edge.fine("fiddle a old 20 20 20;", "fiddle a old 0020 0000 020;", "player a 9 9 9 9;",
                "hearer a 9 09 009 0009;", "bow a 9 9 9;", "bow a -9 -9 -9;", "law l=9999+21;", "fiddle a old 0 0 0;",
                "player a 0 0 0 0;");
        for (String above : List.of("21", "99", "100", "0021", "9999")) {
            edge.fault("fiddle a old " + above + " 0 0;", 5, 13);
            edge.fault("fiddle a old 0 " + above + " 0;", 5, 15);
            edge.fault("fiddle a old 0 0 " + above + " barred;", 5, 17);
        }
        for (String above : List.of("10", "19", "100", "0010", "9999")) {
            for (String who : List.of("player", "hearer")) {
                edge.fault(who + " a " + above + " 0 0 0;", 5, 9);
                edge.fault(who + " a 0 " + above + " 0 0;", 5, 11);
                edge.fault(who + " a 0 0 " + above + " 0;", 5, 13);
                edge.fault(who + " a 0 0 0 " + above + ";", 5, 15);
            }
            edge.fault("bow a " + above + " 0 0;", 5, 6);
            edge.fault("bow a 0 " + above + " 0;", 5, 8);
            edge.fault("bow a 0 0 " + above + ";", 5, 10);
            // at the INT, not at its sign
            edge.fault("bow a -" + above + " 0 0;", 5, 7);
            edge.fault("bow a 0 - " + above + " 0;", 5, 10);
            edge.fault("bow a 0 0 -" + above + ";", 5, 11);
        }
    }

    private static void faultChangesNothing() {
        Edge edge = Edge.term("A text with a FAULT changes nothing but the tape; else it is in place of the one ahead.",
                4, 5, 6, 7, 8, 9, 10, 11, 12, 13, 14, 41, 42, 43, 45);
        String kept = "fiddle a old 1 2 3;fiddle b new 4 5 6 barred;player p 1 2 3 4;hearer q 1 1 1 1;bow w 1 1 1;"
                + "bow v 2 2 2;law l=bright;law m=100-loud;plan x{sit p with v:a,b;sit q with w seen:b;}plan y{sit p "
                + "with w:a;}";
        String other = "fiddle c new 9 9 9;fiddle d new 9 9 9;fiddle e new 9 9 9;player r 9 9 9 9;player s 9 9 9 9;"
                + "player t 9 9 9 9;bow u 9 9 9;bow z 9 9 9;bow k 9 9 9;law n=7;law o=7;law f=7;"
                + "plan g{sit r with u:c;}plan h{}plan i{}";
        BlindFiddles x = Due.told(kept);
        x.mark(0, 0, 50, 0, false);
        String[] ends = {"", ";", "law j=(((((((1)))))));", "law n=1;", "plan j{sit c with u:c;}", "bow j 1 10 1;"};
        int[] places = {-1, 0, 12, 4, 11, 8};
        for (int fault = 1; fault <= 5; fault++) {
            stillKept(edge, x);
            Due.feed(x, other + ends[fault]);
            edge.due(x, "read()", fault);
            edge.due(x, "place()", other.length() + places[fault]);
            edge.due(x, "count(6)", 0);
        }
        stillKept(edge, x);
        // nor does a text that ends within brackets change the next
        for (String broken : new String[] {"law l=1+2*[3+4*((5", "law l=((((((1", "law l=[[[[[[1<1?", "bow k 1 1",
                "plan x{sit p with"}) {
            Due.feed(x, broken);
            edge.due(x, "read()", 1);
            stillKept(edge, x);
        }
        stillKept(edge, x);
        for (String broken : new String[] {"law l=1+2*[3+4*((5", "law l=((((((1", "law l=[[[[[[1<1?"}) {
            Due.tell(x, broken);
            edge.tell(x, kept.replace("law l=bright;", "law l=((((((bright))))));"));
            Due.tell(x, broken);
            edge.tell(x, kept);
            stillKept(edge, x);
        }
        edge.due(x, "run(1, 0, 1, 7)", 2);
        edge.due(x, "count(5)", 3);
        // in place of the one ahead: nothing of that is left, though it had more SITTINGS, and was told twice
        String pairs = "fiddle a new 1 5 1;fiddle b old 5 1 1;player p 1 1 1 1;bow w 0 0 0;law l=bright;law m=loud;";
        for (int i = 0; i < 2; i++) {
            edge.tell(x, pairs + "plan x{sit p with w:a,b;sit p with w:a,b;}plan y{sit p with w:a;}");
            edge.due(x, "parts(0, 0, 1, 7)", 2);
        }
        edge.tell(x, pairs + "plan x{sit p with w:a,b;}");
        edge.due(x, "parts(0, 0, 1, 7)", 1);
        edge.due(x, "takes(0, 0, 7, -1)", 1);
        edge.row(x, "takes(0, 0, 7, #)", 0, 0, 1);
        edge.due(x, "taken(0, 0, 7, 1)", -1);
        edge.due(x, "sitting(0, 1, 0)", -1);
        edge.due(x, "next(0, 1, 7)", 0);
        edge.tell(x, "fiddle c new 9 8 7;player r 6 5 4 3;bow u 0 0 0;law n=quick;plan g{sit r with u:c;}");
        edge.row(x, "count(#)", 0, 1, 1, 1, 1, 1, 3, 0);
        edge.row(x, "count(#)", 10, 1, -1);
        edge.row(x, "fiddle(0, #)", 0, 0, 9, 8, 7, 0);
        edge.due(x, "fiddle(1, 0)", -1);
        edge.row(x, "person(0, #)", 0, 0, 6, 5, 4, 3);
        edge.due(x, "person(1, 0)", -1);
        edge.row(x, "sitting(0, 0, #)", 0, 0, 0, 0, 1);
        edge.row(x, "sitting(0, 0, #)", 10, 0, -1);
        edge.due(x, "sitting(0, 1, 0)", -1);
        edge.due(x, "sitting(1, 0, 0)", -1);
        edge.row(x, "liking(#, 0, 0, 0, false, 0, 0)", 0, 7, MIN);
        edge.row(x, "taken(0, 0, 7, #)", 0, 0, -1);
        edge.due(x, "takes(0, 0, 7, -1)", 0);
        edge.row(x, "takes(0, 0, 7, #)", 0, 1, -2);
        edge.due(x, "touch(0, 0, 0, 0, 1, true)", 8);
        edge.due(x, "gains(0, 0, 1, 1)", 1);
        edge.due(x, "gains(0, 0, 1, 3)", 0);
        edge.row(x, "parts(#, 0, 0, 7)", 0, 0, -1);
        edge.due(x, "next(0, 0, 7)", 0);
        edge.due(x, "next(0, 1, 7)", -1);
        edge.due(x, "say(1)", 128);
        edge.due(x, "run(0, 0, 0, 7)", 2);
        edge.due(x, "fact(3, 3)", 7);
        // no text at all is told
        edge.due(x, "read()", 0);
        edge.row(x, "count(#)", 0, 0, 0, 0, 0, 0, 5, 0);
        edge.due(x, "say(1)", 0);
    }

    private static void stillKept(Edge edge, BlindFiddles x) {
        edge.row(x, "count(#)", 0, 2, 2, 2, 2, 2, 1, 0);
        edge.row(x, "count(#)", 10, 2, 1, -1);
        edge.row(x, "fiddle(0, #)", 0, 1, 1, 2, 3, 0);
        edge.row(x, "fiddle(1, #)", 0, 0, 4, 5, 6, 1);
        edge.due(x, "fiddle(2, 0)", -1);
        edge.row(x, "person(0, #)", 0, 0, 1, 2, 3, 4);
        edge.row(x, "person(1, #)", 0, 1, 1, 1, 1, 1);
        edge.due(x, "person(2, 0)", -1);
        edge.row(x, "sitting(0, 0, #)", 0, 0, 1, 0, 2);
        edge.row(x, "sitting(0, 1, #)", 0, 1, 0, 1, 1);
        edge.row(x, "sitting(1, 0, #)", 0, 0, 0, 0, 1);
        // with v: a has bright 3, loud 4; b 6, 7
        edge.row(x, "liking(#, 0, 0, 1, false, 0, 0)", 0, 3, 96, MIN);
        edge.row(x, "liking(#, 0, 1, 1, false, 0, 0)", 0, 6, 93);
        edge.row(x, "taken(0, #, 7, 0)", 0, 1, 0, -1);
        edge.row(x, "takes(0, #, 7, 1)", 0, 2, 1, -2);
        edge.due(x, "touch(0, 0, 0, 1, 2, true)", 5);
        edge.row(x, "gains(0, 1, 2, #)", 0, 2, 0, 0, 2);
        edge.row(x, "parts(#, 0, 1, 7)", 0, 1, 0, -1);
        edge.due(x, "next(0, 1, 7)", 0);
        edge.due(x, "say(1)", 64);
    }
}
