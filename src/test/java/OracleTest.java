import java.util.ArrayList;
import java.util.List;
import java.util.Random;

/** Random runs of calls, each answer held against the Oracle's. The seeds are fixed: every run is the same. */
public final class OracleTest {
    private final Random random;
    private final BlindFiddles it = new BlindFiddles();
    private final Oracle oracle = new Oracle();
    private final List<String> calls = new ArrayList<>();
    private static int wrong = 0;
    private static final int[] SAYINGS = new int[8];
    private static final int[] FAULTS = new int[6];
    private static int asked = 0;

    private OracleTest(long seed) {
        // The first draws of seeds close by are much alike without this.
        random = new Random(seed * 0x9E3779B97F4A7C15L);
    }

    public static void main(String[] args) {
        int runs = args.length > 0 ? Integer.parseInt(args[0]) : 400;
        long first = args.length > 1 ? Long.parseLong(args[1]) : 1;
        for (long seed = first; seed < first + runs && wrong == 0; seed++) {
            new OracleTest(seed).run();
        }
        for (long seed = first; seed < first + 12L * runs && wrong == 0; seed++) {
            new OracleTest(-seed).texts();
        }
        StringBuilder reached = new StringBuilder();
        for (int i = 0; i < 8; i++) {
            reached.append(" say ").append(1 << i).append(": ").append(SAYINGS[i]);
        }
        for (int i = 0; i < 6; i++) {
            reached.append(" fault ").append(i).append(": ").append(FAULTS[i]);
        }
        System.out.println(asked + " calls;" + reached);
        System.out.println(wrong == 0 ? "all answers are the Oracle's" : "an answer is not the Oracle's");
        if (wrong != 0) {
            System.exit(1);
        }
    }

    private boolean one(int of) {
        return random.nextInt(of) == 0;
    }

    private int from(int low, int high) {
        return low + random.nextInt(high - low + 1);
    }

    private void due(String call, long got, long want) {
        asked++;
        calls.add(call + " = " + got);
        if (got != want && wrong++ == 0) {
            for (String line : calls) {
                System.out.println(line);
            }
            System.out.println("due is " + want);
        }
    }

    // ---- texts

    private final List<String> names = new ArrayList<>();

    private String newName() {
        if (!names.isEmpty() && one(300)) {
            return names.get(random.nextInt(names.size()));
        }
        String name = "";
        while (name.isEmpty() || names.contains(name) || Oracle.WORDS.contains(name)) {
            StringBuilder made = new StringBuilder();
            int length = one(4) ? from(1, 8) : 1;
            for (int i = 0; i < length; i++) {
                made.append((char) from('a', 'z'));
            }
            name = made.toString();
        }
        names.add(name);
        return name;
    }

    private String oldName(List<String> of) {
        if (of.isEmpty() || one(400)) {
            return names.isEmpty() ? "zz" : names.get(random.nextInt(names.size()));
        }
        return of.get(random.nextInt(of.size()));
    }

    private void expression(List<String> out, int depth, int size) {
        for (int i = 0; i < size; i++) {
            if (i > 0) {
                out.add(one(3) ? "*" : one(2) ? "+" : "-");
            }
            int kind = random.nextInt(10);
            if (kind < 2 && depth > 0) {
                out.add("(");
                expression(out, depth - 1, from(1, 3));
                out.add(")");
            } else if (kind < 4 && depth > 0) {
                out.add("[");
                expression(out, depth - 1, from(1, 2));
                out.add(one(2) ? "<" : "==");
                expression(out, depth - 1, from(1, 2));
                out.add("]");
            } else if (kind < 6) {
                out.add(String.valueOf(one(6) ? from(0, 9999) : from(0, 12)));
            } else {
                out.add(Oracle.VARS.get(random.nextInt(12)));
            }
        }
    }

    private String number(int most) {
        return String.valueOf(one(900) ? most + 1 : one(9) ? most : random.nextInt(most + 1));
    }

    /** A text with so many of each; nearly always without a FAULT but for its size. */
    private List<String> text(int fiddles, int people, int bows, int laws, int plans, int sits) {
        names.clear();
        List<String> fiddleNames = new ArrayList<>();
        List<String> peopleNames = new ArrayList<>();
        List<String> bowNames = new ArrayList<>();
        List<String> out = new ArrayList<>();
        for (int i = 0; i < fiddles; i++) {
            fiddleNames.add(newName());
            out.addAll(List.of("fiddle", fiddleNames.get(i), one(2) ? "old" : "new"));
            out.addAll(List.of(number(20), number(20), number(20)));
            if (one(3)) {
                out.add("barred");
            }
            out.add(";");
        }
        for (int i = 0; i < people; i++) {
            peopleNames.add(newName());
            out.addAll(List.of(one(3) ? "hearer" : "player", peopleNames.get(i)));
            out.addAll(List.of(number(9), number(9), number(9), number(9), ";"));
        }
        for (int i = 0; i < bows; i++) {
            bowNames.add(newName());
            out.addAll(List.of("bow", bowNames.get(i)));
            for (int j = 0; j < 3; j++) {
                if (one(2)) {
                    out.add("-");
                }
                out.add(number(9));
            }
            out.add(";");
        }
        for (int i = 0; i < laws; i++) {
            out.addAll(List.of("law", newName(), "="));
            expression(out, one(20) ? 7 : 2, one(5) ? from(4, 9) : from(1, 5));
            out.add(";");
        }
        for (int i = 0; i < plans; i++) {
            out.addAll(List.of("plan", newName(), "{"));
            int many = from(0, sits);
            for (int k = 0; k < many; k++) {
                sit(out, fiddleNames, peopleNames, bowNames);
            }
            out.add("}");
        }
        return out;
    }

    private void sit(List<String> out, List<String> fiddles, List<String> people, List<String> bows) {
        out.addAll(List.of("sit", oldName(people), "with", oldName(bows)));
        if (one(3)) {
            out.add("seen");
        }
        List<String> left = new ArrayList<>(fiddles);
        int many = from(1, one(60) ? 8 : 6);
        for (int i = 0; i < many && (i == 0 || !left.isEmpty()); i++) {
            out.add(i == 0 ? ":" : ",");
            String name = oldName(left);
            out.add(name);
            if (!one(90)) {
                left.remove(name);
            }
        }
        out.add(";");
    }

    private String blanks(boolean due) {
        String all = "";
        if (due || one(6)) {
            all += "\t\n\r ".charAt(one(4) ? random.nextInt(4) : 3);
        }
        return one(40) ? all + "  " : all;
    }

    private String joined(List<String> tokens) {
        StringBuilder text = new StringBuilder(blanks(false));
        String ahead = ";";
        for (String token : tokens) {
            boolean words = Character.isLetterOrDigit(token.isEmpty() ? ' ' : token.charAt(0))
                    && Character.isLetterOrDigit(ahead.charAt(ahead.length() - 1));
            boolean mixed = words && Character.isDigit(token.charAt(0))
                    != Character.isDigit(ahead.charAt(ahead.length() - 1));
            text.append(blanks(words && !(mixed && one(3)) && !one(3000)));
            text.append(token);
            ahead = token.isEmpty() ? " " : token;
        }
        return text.append(blanks(false)).toString();
    }

    private static final String[] STRAY = {"fiddle", "old", "new", "barred", "player", "hearer", "bow", "law", "plan",
        "sit", "with", "seen", "bright", "noise", ";", ":", ",", "=", "+", "-", "*", "<", "==", "===", "(", ")", "[",
        "]", "{", "}", "7", "0000", "00000", "12345", "abcdefgh", "abcdefghi", "x", "Q", "_", "\0", "\u00e9", "."};

    private void spoil(List<String> tokens) {
        int times = from(1, 2);
        for (int i = 0; i < times && !tokens.isEmpty(); i++) {
            int at = random.nextInt(tokens.size());
            switch (random.nextInt(6)) {
                case 0 -> tokens.remove(at);
                case 1 -> tokens.add(at, STRAY[random.nextInt(STRAY.length)]);
                case 2 -> tokens.set(at, STRAY[random.nextInt(STRAY.length)]);
                case 3 -> tokens.set(at, tokens.get(random.nextInt(tokens.size())));
                case 4 -> {
                    while (tokens.size() > at) {
                        tokens.remove(tokens.size() - 1);
                    }
                }
                default -> {
                    int other = random.nextInt(tokens.size());
                    String kept = tokens.get(at);
                    tokens.set(at, tokens.get(other));
                    tokens.set(other, kept);
                }
            }
        }
    }

    /** Feeds as much of the text as there is room for, and reads it. */
    private int tell(String text) {
        String fed = text.length() > 2000 ? text.substring(0, 2000) : text;
        int pad = (20 - fed.length() % 20) % 20;
        String whole = fed + " ".repeat(pad);
        for (int at = 0; at < whole.length(); at += 20) {
            int[] five = new int[5];
            for (int i = 0; i < 20; i++) {
                five[i / 4] = five[i / 4] << 8 | whole.charAt(at + i) & 255;
            }
            due("feed(" + five[0] + ", " + five[1] + ", " + five[2] + ", " + five[3] + ", " + five[4] + ")",
                    it.feed(five[0], five[1], five[2], five[3], five[4]),
                    oracle.feed(five[0], five[1], five[2], five[3], five[4]));
        }
        due("back(" + pad + ")", it.back(pad), oracle.back(pad));
        calls.add("the text is: " + fed);
        int fault = it.read();
        due("read()", fault, oracle.read());
        due("place()", it.place(), oracle.place());
        if (fault >= 0 && fault < 6) {
            FAULTS[fault]++;
        }
        return fault;
    }

    /** Texts alone, spoilt or too long; then all that is told is looked at. */
    private void texts() {
        List<String> tokens;
        switch (random.nextInt(4)) {
            case 0 -> tokens = text(from(0, 9), from(0, 11), from(0, 5), from(0, 2), from(0, 2), 4);
            case 1 -> tokens = text(from(1, 3), 2, 1, from(0, 7), from(0, 5), 2);
            case 2 -> tokens = text(from(1, 7), 2, 1, 1, 1, 14);
            default -> {
                tokens = text(1, 1, 1, 0, 0, 0);
                tokens.addAll(List.of("law", newName(), "="));
                expression(tokens, 8, from(1, 200));
                tokens.add(";");
            }
        }
        if (one(2)) {
            spoil(tokens);
        }
        tell(joined(tokens));
        lookAround();
        if (one(5)) {
            tell(one(2) ? "" : joined(text(1, 1, 1, 1, 1, 1)));
            lookAround();
        }
    }

    private void lookAround() {
        for (int what = -1; what < 16; what++) {
            due("count(" + what + ")", it.count(what), oracle.count(what));
        }
        for (int i = 0; i < oracle.fiddles.size(); i++) {
            for (int what = 0; what < 5; what++) {
                due("fiddle(" + i + ", " + what + ")", it.fiddle(i, what), oracle.fiddle(i, what));
            }
        }
        for (int i = 0; i < oracle.people.size(); i++) {
            for (int what = 0; what < 5; what++) {
                due("person(" + i + ", " + what + ")", it.person(i, what), oracle.person(i, what));
            }
        }
        for (int plan = 0; plan < oracle.plans.size(); plan++) {
            for (int k = 0; k <= oracle.plans.get(plan).size(); k++) {
                for (int what = -1; what < 17; what++) {
                    due("sitting(" + plan + ", " + k + ", " + what + ")",
                            it.sitting(plan, k, what), oracle.sitting(plan, k, what));
                }
            }
        }
        if (!oracle.people.isEmpty() && !oracle.fiddles.isEmpty() && !oracle.bows.isEmpty()) {
            for (int law = 0; law <= oracle.laws.size(); law++) {
                int spot = from(0, 9);
                int noise = from(0, 9);
                due("liking(" + law + ", 0, 0, 0, true, " + spot + ", " + noise + ")",
                        it.liking(law, 0, 0, 0, true, spot, noise), oracle.liking(law, 0, 0, 0, true, spot, noise));
            }
        }
    }

    // ---- whole runs

    /** Mostly one of a list; now and then just outside, or far. */
    private int of(int many) {
        if (many == 0 || one(30)) {
            return one(6) ? (one(2) ? Integer.MIN_VALUE : Integer.MAX_VALUE) : one(2) ? -1 : many;
        }
        return random.nextInt(many);
    }

    private int anyN() {
        int many = oracle.facts.size();
        return one(2) ? many : of(many + 1);
    }

    private int seed() {
        return one(2) ? from(-3, 20) : random.nextInt();
    }

    private void run() {
        boolean large = one(2);
        tell(joined(large ? text(from(5, 8), from(4, 10), 1, 2, 2, 3) : text(from(0, 4), from(0, 4), from(0, 2),
                from(0, 4), from(0, 4), 5)));
        int style = random.nextInt(3);
        if (large && one(2)) {
            inTurn(style);
        } else if (one(6)) {
            guessesInTurn();
        }
        while (calls.size() < 505 - 130 && wrong == 0) {
            step(style);
        }
        if (one(3)) {
            tell(joined(text(from(0, 8), from(0, 10), 1, 1, 1, 1)));
        }
        for (int i = 0; i < 20 && wrong == 0; i++) {
            ask();
        }
    }

    /** Everybody marks every FIDDLE, blind first and then seen, as far as there is room. */
    private void inTurn(int style) {
        int pairs = oracle.people.size() * oracle.fiddles.size();
        int many = from(20, 80);
        boolean seenNext = one(2);
        for (int i = 0; i < many && pairs > 0; i++) {
            int pair = seenNext ? i / 2 % pairs : i % pairs;
            boolean seen = seenNext && i % 2 == 1;
            int person = pair / oracle.fiddles.size();
            int fiddle = pair % oracle.fiddles.size();
            int value = Math.max(0, Math.min(100, value(style, fiddle) + (seen && style > 0 ? 30 : 0)));
            int spot = from(0, 5);
            due("mark(" + person + ", " + fiddle + ", " + value + ", " + spot + ", " + seen + ")",
                    it.mark(person, fiddle, value, spot, seen), oracle.mark(person, fiddle, value, spot, seen));
        }
    }

    /** About as many GUESSES as THE COIN and THE TABLE can bear. */
    private void guessesInTurn() {
        int many = from(50, 64);
        for (int i = 0; i < many; i++) {
            int person = of(oracle.people.size());
            int fiddle = of(oracle.fiddles.size());
            boolean old = one(2);
            due("guess(" + person + ", " + fiddle + ", " + old + ")",
                    it.guess(person, fiddle, old), oracle.guess(person, fiddle, old));
        }
        for (int n = oracle.facts.size(); n >= 0 && n > oracle.facts.size() - 6; n--) {
            due("coin(" + n + ", true)", it.coin(n, true), oracle.coin(n, true));
            due("coin(" + n + ", false)", it.coin(n, false), oracle.coin(n, false));
            due("table(" + n + ", true)", it.table(n, true), oracle.table(n, true));
            due("table(" + n + ", false)", it.table(n, false), oracle.table(n, false));
        }
    }

    private int value(int style, int fiddle) {
        if (style == 0) {
            return one(40) ? (one(2) ? -1 : 101) : from(0, 100);
        }
        // Such as tell something: old ones far above, or few values so that many are alike.
        return style == 1 ? oracle.fiddle(fiddle, 0) * 50 + from(0, 50) : 10 * from(0, 3);
    }

    private void step(int style) {
        int people = oracle.people.size();
        int fiddles = oracle.fiddles.size();
        int kind = random.nextInt(100);
        if (kind < 25) {
            int person = of(people);
            int fiddle = of(fiddles);
            int value = value(style, fiddle);
            int spot = of(10);
            boolean seen = one(4);
            due("mark(" + person + ", " + fiddle + ", " + value + ", " + spot + ", " + seen + ")",
                    it.mark(person, fiddle, value, spot, seen), oracle.mark(person, fiddle, value, spot, seen));
        } else if (kind < 35) {
            int person = of(people);
            int fiddle = of(fiddles);
            boolean old = style == 1 && !one(6) ? oracle.fiddle(fiddle, 0) == 1 : one(2);
            due("guess(" + person + ", " + fiddle + ", " + old + ")",
                    it.guess(person, fiddle, old), oracle.guess(person, fiddle, old));
        } else if (kind < 38) {
            int fact = of(oracle.facts.size());
            due("annul(" + fact + ")", it.annul(fact), oracle.annul(fact));
        } else if (kind < 39) {
            int plan = of(oracle.plans.size());
            int law = of(oracle.laws.size());
            int guess = of(oracle.laws.size());
            int seed = seed();
            due("run(" + plan + ", " + law + ", " + guess + ", " + seed + ")",
                    it.run(plan, law, guess, seed), oracle.run(plan, law, guess, seed));
        } else {
            ask();
        }
    }

    private void ask() {
        if (one(2)) {
            askOfTold();
        } else {
            askOfKnown();
        }
    }

    private void askOfTold() {
        int plan = of(oracle.plans.size());
        int law = of(oracle.laws.size());
        int other = of(oracle.laws.size());
        int person = of(oracle.people.size());
        int fiddle = of(oracle.fiddles.size());
        int bow = of(oracle.bows.size());
        int seed = seed();
        int k = of(oracle.plans.size() > plan && plan >= 0 ? oracle.plans.get(plan).size() : 2);
        int spot = of(10);
        int noise = of(10);
        int t = of(4);
        int what = of(4);
        boolean flag = one(2);
        String all = " plan " + plan + " law " + law + " other " + other + " person " + person + " fiddle " + fiddle
                + " bow " + bow + " seed " + seed + " k " + k + " spot " + spot + " noise " + noise + " t " + t
                + " what " + what + " flag " + flag;
        switch (random.nextInt(11)) {
            case 0 -> due("liking" + all, it.liking(law, person, fiddle, bow, flag, spot, noise),
                    oracle.liking(law, person, fiddle, bow, flag, spot, noise));
            case 1 -> due("taken" + all, it.taken(plan, law, seed, k), oracle.taken(plan, law, seed, k));
            case 2 -> due("takes" + all, it.takes(plan, law, seed, fiddle), oracle.takes(plan, law, seed, fiddle));
            case 3 -> due("takes of old" + all, it.takes(plan, law, seed, -1), oracle.takes(plan, law, seed, -1));
            case 4 -> due("touch" + all, it.touch(law, person, fiddle, bow, t, flag),
                    oracle.touch(law, person, fiddle, bow, t, flag));
            case 5 -> {
                int little = one(20) ? t : of(2);
                due("gains with " + little + all, it.gains(law, bow, little, what),
                        oracle.gains(law, bow, little, what));
            }
            case 6 -> due("parts" + all, it.parts(plan, law, other, seed), oracle.parts(plan, law, other, seed));
            case 7 -> due("next" + all, it.next(law, other, seed), oracle.next(law, other, seed));
            case 8 -> {
                int fact = of(oracle.facts.size());
                int column = of(6);
                due("fact(" + fact + ", " + column + ")", it.fact(fact, column), oracle.fact(fact, column));
            }
            case 9 -> {
                int b = from(1, 5);
                int a = from(-1, b + 1);
                int u = one(3) ? from(1, 1001) : from(1, 30);
                int v = one(3) ? from(1, 1001) : from(1, 30);
                due("need(" + u + ", " + v + ", " + a + ", " + b + ", 0)",
                        it.need(u, v, a, b, 0), oracle.need(u, v, a, b, 0));
                due("need(" + u + ", " + v + ", " + a + ", " + b + ", 1)",
                        it.need(u, v, a, b, 1), oracle.need(u, v, a, b, 1));
            }
            default -> due("count" + all, it.count(what + 3), oracle.count(what + 3));
        }
    }

    private void askOfKnown() {
        int n = anyN();
        int person = of(oracle.people.size());
        int fiddle = of(oracle.fiddles.size());
        int other = of(oracle.fiddles.size());
        int two = of(2);
        int three = of(3);
        int four = of(4);
        int spot = of(10);
        boolean flag = one(2);
        String all = " n " + n + " person " + person + " fiddle " + fiddle + " other " + other + " of 2 " + two
                + " of 3 " + three + " of 4 " + four + " spot " + spot + " flag " + flag;
        switch (random.nextInt(27)) {
            case 0 -> due("last" + all, it.last(person, fiddle, flag, n), oracle.last(person, fiddle, flag, n));
            case 1 -> due("mean" + all, it.mean(fiddle, flag, n, two), oracle.mean(fiddle, flag, n, two));
            case 2 -> due("guesses" + all, it.guesses(n, four + 1), oracle.guesses(n, four + 1));
            case 3 -> due("guesses" + all, it.guesses(n, four), oracle.guesses(n, four));
            case 4 -> due("coin" + all, it.coin(n, flag), oracle.coin(n, flag));
            case 5 -> due("table" + all, it.table(n, flag), oracle.table(n, flag));
            case 6 -> due("steady" + all, it.steady(n, two), oracle.steady(n, two));
            case 7 -> due("steadyWays" + all, it.steadyWays(n), oracle.steadyWays(n));
            case 8 -> due("kinds" + all, it.kinds(n, four), oracle.kinds(n, four));
            case 9 -> due("kindWays" + all, it.kindWays(n, flag), oracle.kindWays(n, flag));
            case 10 -> due("flips" + all, it.flips(n, two), oracle.flips(n, two));
            case 11 -> due("flipWays" + all, it.flipWays(n), oracle.flipWays(n));
            case 12, 13 -> due("small" + all, it.small(n), oracle.small(n));
            case 14 -> due("knowing" + all, it.knowing(n, three), oracle.knowing(n, three));
            case 15 -> due("knowingWays" + all, it.knowingWays(n), oracle.knowingWays(n));
            case 16 -> due("spot" + all, it.spot(n, spot, two), oracle.spot(n, spot, two));
            case 17 -> due("right" + all, it.right(n, fiddle), oracle.right(n, fiddle));
            case 18 -> due("near" + all, it.near(n, three), oracle.near(n, three));
            case 19 -> due("nearWays" + all, it.nearWays(n), oracle.nearWays(n));
            case 20 -> due("beats" + all, it.beats(n, fiddle, other), oracle.beats(n, fiddle, other));
            case 21 -> due("winner" + all, it.winner(n), oracle.winner(n));
            case 22 -> due("best" + all, it.best(n, flag), oracle.best(n, flag));
            case 23 -> {
                int from = of(oracle.facts.size());
                due("turned(" + from + ")", it.turned(from), oracle.turned(from));
            }
            default -> {
                int say = it.say(n);
                due("say" + all, say, oracle.say(n));
                for (int i = 0; i < 8 && say > 0; i++) {
                    SAYINGS[i] += say >> i & 1;
                }
            }
        }
    }
}
