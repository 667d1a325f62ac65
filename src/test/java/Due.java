/** What the tests share: answers held against those that are due, and texts fed and read. */
final class Due {
    private static int wrong = 0;
    private static int held = 0;

    private Due() {
    }

    static void due(int promise, String call, long got, long want) {
        held++;
        if (got != want) {
            wrong++;
            System.out.println("promise " + promise + ": " + call + " answered " + got + ", due is " + want);
        }
    }

    /** Says how it went, and ends with 1 if an answer was not as due. */
    static void end() {
        System.out.println(wrong == 0 ? held + " answers are as due" : wrong + " of " + held + " are not as due");
        if (wrong != 0) {
            System.exit(1);
        }
    }

    /** Puts the text behind the tape, byte by byte as it stands. */
    static void feed(BlindFiddles x, String text) {
        int pad = (20 - text.length() % 20) % 20;
        String whole = text + " ".repeat(pad);
        for (int at = 0; at < whole.length(); at += 20) {
            int[] five = new int[5];
            for (int i = 0; i < 20; i++) {
                five[i / 4] = five[i / 4] << 8 | whole.charAt(at + i) & 255;
            }
            x.feed(five[0], five[1], five[2], five[3], five[4]);
        }
        x.back(pad);
    }

    static int tell(BlindFiddles x, String text) {
        feed(x, text);
        return x.read();
    }

    static BlindFiddles told(String text) {
        BlindFiddles x = new BlindFiddles();
        due(4, "read() of " + text, tell(x, text), 0);
        return x;
    }

    /** The text has this FAULT, at this place, and nothing of it is told. */
    static void fault(String text, int number, int place) {
        BlindFiddles x = new BlindFiddles();
        tell(x, "fiddle kept new 1 2 3;");
        due(4, "read() of '" + text + "'", tell(x, text), number);
        due(5, "place() of '" + text + "'", x.place(), place);
        due(4, "count(6) behind '" + text + "'", x.count(6), 0);
        if (number != 0) {
            due(4, "count(0) behind '" + text + "'", x.count(0), 1);
            due(4, "fiddle(0, 3) behind '" + text + "'", x.fiddle(0, 3), 3);
        }
    }
}
