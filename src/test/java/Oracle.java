import java.math.BigInteger;
import java.util.ArrayList;
import java.util.Arrays;
import java.util.HashMap;
import java.util.HashSet;
import java.util.LinkedHashSet;
import java.util.List;
import java.util.Map;
import java.util.Set;

/**
 * The document once more, in the slowest and most literal way: an Earley recogniser for the grammar,
 * exact fractions, and every "of all ways" counted one by one. It shares nothing with the class.
 */
final class Oracle {
    static final int NONE = -1;
    static final int MIN = Integer.MIN_VALUE;
    static final int BAD_SUM = -1000000000;

    record Token(String text, int place) {
        boolean isName() {
            return text.matches("[a-z]{1,8}") && !WORDS.contains(text);
        }

        boolean isInt() {
            return text.matches("[0-9]{1,4}");
        }

        boolean fits(String terminal) {
            return switch (terminal) {
                case "NAME" -> isName();
                case "INT" -> isInt();
                default -> text.equals(terminal);
            };
        }
    }

    static final List<String> VARS = List.of("bright", "loud", "quick", "warm", "strong", "light", "habit", "old",
            "seen", "spot", "far", "noise");
    static final Set<String> WORDS = new HashSet<>(List.of("fiddle", "old", "new", "barred", "player", "hearer", "bow",
            "law", "plan", "sit", "with", "seen", "bright", "loud", "quick", "warm", "strong", "light", "habit",
            "spot", "far", "noise"));
    static final String GRAMMAR = """
            TEXT
            TEXT TEXT TELL
            TELL fiddle NAME AGE INT INT INT BARRED ;
            TELL WHO NAME INT INT INT INT ;
            TELL bow NAME SINT SINT SINT ;
            TELL law NAME = E ;
            TELL plan NAME { SITS }
            AGE old
            AGE new
            BARRED
            BARRED barred
            WHO player
            WHO hearer
            SITS
            SITS SITS SIT
            SIT sit NAME with NAME SEEN : NAMES ;
            SEEN
            SEEN seen
            NAMES NAME
            NAMES NAMES , NAME
            SINT INT
            SINT - INT
            E PART
            E E + PART
            E E - PART
            PART UNIT
            PART PART * UNIT
            UNIT INT
            UNIT VAR
            UNIT ( E )
            UNIT [ E < E ]
            UNIT [ E == E ]
            """;
    static final List<List<String>> RULES = rules();
    static final Set<String> LEFTS = new HashSet<>();

    static List<List<String>> rules() {
        List<List<String>> rules = new ArrayList<>();
        for (String line : GRAMMAR.split("\n")) {
            rules.add(Arrays.asList(line.trim().split(" ")));
        }
        for (String var : VARS) {
            rules.add(List.of("VAR", var));
        }
        return rules;
    }

    static {
        for (List<String> rule : RULES) {
            LEFTS.add(rule.get(0));
        }
    }

    // ---- the text

    static final class Fiddle {
        boolean old;
        int[] sounds = new int[3];
        boolean barred;
    }

    static final class Person {
        boolean hearer;
        int[] likings = new int[4];
    }

    static final class Sitting {
        int person;
        int bow;
        boolean seen;
        List<Integer> order = new ArrayList<>();
    }

    static final class Fact {
        int kind;
        int person = NONE;
        int fiddle = NONE;
        int value = NONE;
        int spot = NONE;
        int seen = NONE;
    }

    List<Fiddle> fiddles = new ArrayList<>();
    List<Person> people = new ArrayList<>();
    List<int[]> bows = new ArrayList<>();
    List<List<String>> laws = new ArrayList<>();
    List<List<Sitting>> plans = new ArrayList<>();
    final List<Fact> facts = new ArrayList<>();
    final List<Integer> tape = new ArrayList<>();
    int faultPlace = NONE;

    int feed(int a, int b, int c, int d, int e) {
        if (tape.size() + 20 > 2000) {
            return NONE;
        }
        for (int word : new int[] {a, b, c, d, e}) {
            for (byte one : BigInteger.valueOf(word & 0xFFFFFFFFL | 1L << 32).toByteArray()) {
                tape.add(one & 255);
            }
            tape.remove(tape.size() - 5);
        }
        return tape.size();
    }

    int back(int n) {
        if (n < 0 || tape.size() < n) {
            return NONE;
        }
        for (int i = 0; i < n; i++) {
            tape.remove(tape.size() - 1);
        }
        return tape.size();
    }

    /** The tokens; the last one is empty at the end, or is what is none ("?"). */
    static List<Token> tokens(String text) {
        List<Token> tokens = new ArrayList<>();
        int at = 0;
        while (true) {
            while (at < text.length() && "\t\n\r ".indexOf(text.charAt(at)) >= 0) {
                at++;
            }
            if (at >= text.length()) {
                tokens.add(new Token("", text.length()));
                return tokens;
            }
            String rest = text.substring(at);
            String found = null;
            for (String form : new String[] {"[a-z]+", "[0-9]+", "==", "[;:,=+*<()\\[\\]{}-]"}) {
                java.util.regex.Matcher m = java.util.regex.Pattern.compile(form).matcher(rest);
                if (found == null && m.lookingAt()) {
                    found = m.group();
                }
            }
            boolean bad = found == null || Character.isLetter(found.charAt(0)) && found.length() > 8
                    || Character.isDigit(found.charAt(0)) && found.length() > 4;
            if (bad) {
                tokens.add(new Token("?", at));
                return tokens;
            }
            tokens.add(new Token(found, at));
            at += found.length();
        }
    }

    record Item(int rule, int dot, int from) {
    }

    /** The number of the first token with which no text goes on; the number of tokens if all is well. */
    static int syntaxFault(List<Token> tokens) {
        List<Set<Item>> sets = new ArrayList<>();
        Set<Item> start = new LinkedHashSet<>();
        for (int r = 0; r < RULES.size(); r++) {
            if (RULES.get(r).get(0).equals("TEXT")) {
                start.add(new Item(r, 0, 0));
            }
        }
        sets.add(start);
        for (int i = 0; i < tokens.size(); i++) {
            close(sets, i);
            if (tokens.get(i).text().isEmpty()) {
                for (Item item : sets.get(i)) {
                    List<String> rule = RULES.get(item.rule());
                    if (item.from() == 0 && rule.get(0).equals("TEXT") && item.dot() == rule.size() - 1) {
                        return tokens.size();
                    }
                }
                return i;
            }
            Set<Item> next = new LinkedHashSet<>();
            for (Item item : sets.get(i)) {
                List<String> rule = RULES.get(item.rule());
                if (item.dot() + 1 < rule.size()) {
                    String symbol = rule.get(item.dot() + 1);
                    if (!LEFTS.contains(symbol) && tokens.get(i).fits(symbol)) {
                        next.add(new Item(item.rule(), item.dot() + 1, item.from()));
                    }
                }
            }
            if (next.isEmpty()) {
                return i;
            }
            sets.add(next);
        }
        return tokens.size();
    }

    static void close(List<Set<Item>> sets, int i) {
        List<Item> work = new ArrayList<>(sets.get(i));
        for (int w = 0; w < work.size(); w++) {
            Item item = work.get(w);
            List<String> rule = RULES.get(item.rule());
            List<Item> more = new ArrayList<>();
            if (item.dot() + 1 < rule.size()) {
                String symbol = rule.get(item.dot() + 1);
                for (int r = 0; r < RULES.size(); r++) {
                    if (RULES.get(r).get(0).equals(symbol)) {
                        more.add(new Item(r, 0, i));
                        if (RULES.get(r).size() == 1) {
                            more.add(new Item(item.rule(), item.dot() + 1, item.from()));
                        }
                    }
                }
            } else {
                for (Item other : new ArrayList<>(sets.get(item.from()))) {
                    List<String> otherRule = RULES.get(other.rule());
                    if (other.dot() + 1 < otherRule.size()
                            && otherRule.get(other.dot() + 1).equals(rule.get(0))) {
                        more.add(new Item(other.rule(), other.dot() + 1, other.from()));
                    }
                }
            }
            for (Item one : more) {
                if (sets.get(i).add(one)) {
                    work.add(one);
                }
            }
        }
    }

    /** The number of the first token of the good ones ahead of the end for which there is no room. */
    static int roomFault(List<Token> tokens, int end) {
        Map<String, Integer> told = new HashMap<>();
        int sits = 0;
        int order = 0;
        boolean inOrder = false;
        int depth = 0;
        for (int i = 0; i < end && i < tokens.size(); i++) {
            Token token = tokens.get(i);
            if (token.text().isEmpty()) {
                break;
            }
            String text = token.text().equals("hearer") ? "player" : token.text();
            if (i == 400) {
                return i;
            }
            told.merge(text, 1, Integer::sum);
            int limit = switch (text) {
                case "fiddle" -> 8;
                case "player" -> 10;
                case "bow" -> 4;
                case "law" -> 6;
                case "plan" -> 4;
                default -> 9999;
            };
            if (told.get(text) > limit) {
                return i;
            }
            if (text.equals("plan")) {
                sits = 0;
            }
            if (text.equals("sit")) {
                sits++;
            }
            if (text.equals(":")) {
                inOrder = true;
                order = 0;
            }
            if (text.equals(";")) {
                inOrder = false;
            }
            if (inOrder && token.isName()) {
                order++;
            }
            if (text.equals("(") || text.equals("[")) {
                depth++;
            }
            if (text.equals(")") || text.equals("]")) {
                depth--;
            }
            if (sits > 12 || order > 6 || depth > 6) {
                return i;
            }
        }
        return Integer.MAX_VALUE;
    }

    int laterFault;
    int laterPlace;

    void later(int fault, int place) {
        if (laterFault == 0) {
            laterFault = fault;
            laterPlace = place;
        }
    }

    int read() {
        StringBuilder text = new StringBuilder();
        for (int one : tape) {
            text.append((char) one);
        }
        tape.clear();
        List<Token> tokens = tokens(text.toString());
        int syntax = syntaxFault(tokens);
        int room = roomFault(tokens, syntax);
        if (room < syntax) {
            faultPlace = tokens.get(room).place();
            return 2;
        }
        if (syntax < tokens.size()) {
            faultPlace = tokens.get(syntax).place();
            return 1;
        }
        Oracle fresh = new Oracle();
        fresh.build(tokens);
        if (fresh.laterFault != 0) {
            faultPlace = fresh.laterPlace;
            return fresh.laterFault;
        }
        faultPlace = NONE;
        fiddles = fresh.fiddles;
        people = fresh.people;
        bows = fresh.bows;
        laws = fresh.laws;
        plans = fresh.plans;
        memo.clear();
        return 0;
    }

    final Map<String, String> kindOf = new HashMap<>();
    final Map<String, Integer> numberOf = new HashMap<>();

    void tellName(Token token, String kind, int number) {
        if (kindOf.containsKey(token.text())) {
            later(3, token.place());
        } else {
            kindOf.put(token.text(), kind);
            numberOf.put(token.text(), number);
        }
    }

    int findName(Token token, String kind) {
        if (!kind.equals(kindOf.get(token.text()))) {
            later(4, token.place());
            return NONE;
        }
        return numberOf.get(token.text());
    }

    int upTo(Token token, int most) {
        int value = Integer.parseInt(token.text());
        if (value > most) {
            later(5, token.place());
        }
        return value;
    }

    void build(List<Token> tokens) {
        int at = 0;
        while (!tokens.get(at).text().isEmpty()) {
            String first = tokens.get(at).text();
            Token name = tokens.get(at + 1);
            int end = at;
            while (!tokens.get(end).text().equals(first.equals("plan") ? "}" : ";")) {
                end++;
            }
            switch (first) {
                case "fiddle" -> buildFiddle(tokens.subList(at, end), name);
                case "player", "hearer" -> {
                    tellName(name, "person", people.size());
                    Person person = new Person();
                    person.hearer = first.equals("hearer");
                    for (int i = 0; i < 4; i++) {
                        person.likings[i] = upTo(tokens.get(at + 2 + i), 9);
                    }
                    people.add(person);
                }
                case "bow" -> buildBow(tokens.subList(at + 2, end), name);
                case "law" -> {
                    tellName(name, "law", laws.size());
                    List<String> law = new ArrayList<>();
                    for (Token token : tokens.subList(at + 3, end)) {
                        law.add(token.text());
                    }
                    laws.add(law);
                }
                default -> buildPlan(tokens.subList(at + 3, end), name);
            }
            at = end + 1;
        }
    }

    void buildFiddle(List<Token> tokens, Token name) {
        tellName(name, "fiddle", fiddles.size());
        Fiddle fiddle = new Fiddle();
        fiddle.old = tokens.get(2).text().equals("old");
        for (int i = 0; i < 3; i++) {
            fiddle.sounds[i] = upTo(tokens.get(3 + i), 20);
        }
        fiddle.barred = tokens.size() > 6;
        fiddles.add(fiddle);
    }

    void buildBow(List<Token> tokens, Token name) {
        tellName(name, "bow", bows.size());
        int[] bow = new int[3];
        int i = 0;
        int sign = 1;
        for (Token token : tokens) {
            if (token.text().equals("-")) {
                sign = -1;
            } else {
                bow[i++] = sign * upTo(token, 9);
                sign = 1;
            }
        }
        bows.add(bow);
    }

    void buildPlan(List<Token> tokens, Token name) {
        tellName(name, "plan", plans.size());
        List<Sitting> plan = new ArrayList<>();
        Sitting sitting = null;
        String ahead = "";
        for (Token token : tokens) {
            switch (ahead) {
                case "sit" -> {
                    sitting = new Sitting();
                    sitting.person = findName(token, "person");
                    plan.add(sitting);
                }
                case "with" -> sitting.bow = findName(token, "bow");
                case ":", "," -> {
                    int fiddle = findName(token, "fiddle");
                    if (fiddle != NONE && sitting.order.contains(fiddle)) {
                        later(3, token.place());
                    }
                    sitting.order.add(fiddle);
                }
                default -> {
                    if (token.text().equals("seen")) {
                        sitting.seen = true;
                    }
                }
            }
            ahead = token.text();
        }
        plans.add(plan);
    }

    int place() {
        return faultPlace;
    }

    /** What has been reckoned since anything changed last, so that the tests end in good time. */
    final Map<String, Integer> memo = new HashMap<>();

    int kept(String call, java.util.function.IntSupplier reckoning) {
        Integer kept = memo.get(call);
        if (kept == null) {
            kept = reckoning.getAsInt();
            memo.put(call, kept);
        }
        return kept;
    }

    static boolean in(int i, List<?> list) {
        return i >= 0 && i < list.size();
    }

    static boolean within(int low, int x, int high) {
        return low <= x && x <= high;
    }

    int fiddle(int fiddle, int what) {
        if (!in(fiddle, fiddles)) {
            return NONE;
        }
        Fiddle it = fiddles.get(fiddle);
        return switch (what) {
            case 0 -> it.old ? 1 : 0;
            case 1, 2, 3 -> it.sounds[what - 1];
            case 4 -> it.barred ? 1 : 0;
            default -> NONE;
        };
    }

    int person(int person, int what) {
        if (!in(person, people)) {
            return NONE;
        }
        Person it = people.get(person);
        return switch (what) {
            case 0 -> it.hearer ? 1 : 0;
            case 1, 2, 3, 4 -> it.likings[what - 1];
            default -> NONE;
        };
    }

    int sitting(int plan, int k, int what) {
        if (!in(plan, plans) || !in(k, plans.get(plan))) {
            return NONE;
        }
        Sitting it = plans.get(plan).get(k);
        return switch (what) {
            case 0 -> it.person;
            case 1 -> it.bow;
            case 2 -> it.seen ? 1 : 0;
            case 3 -> it.order.size();
            case 10, 11, 12, 13, 14, 15 -> what - 10 < it.order.size() ? it.order.get(what - 10) : NONE;
            default -> NONE;
        };
    }

    // ---- liking

    /** Splits at the last operator outside brackets: what binds least is looked for first. */
    static int value(List<String> e, Map<String, Integer> vars) {
        for (String operators : new String[] {"+-", "*"}) {
            int depth = 0;
            for (int i = e.size() - 1; i >= 0; i--) {
                String t = e.get(i);
                if (t.equals(")") || t.equals("]")) {
                    depth++;
                } else if (t.equals("(") || t.equals("[")) {
                    depth--;
                } else if (depth == 0 && operators.contains(t)) {
                    BigInteger left = BigInteger.valueOf(value(e.subList(0, i), vars));
                    BigInteger right = BigInteger.valueOf(value(e.subList(i + 1, e.size()), vars));
                    return (switch (t) {
                        case "+" -> left.add(right);
                        case "-" -> left.subtract(right);
                        default -> left.multiply(right);
                    }).intValue();
                }
            }
        }
        List<String> inside = e.subList(1, Math.max(1, e.size() - 1));
        if (e.get(0).equals("(")) {
            return value(inside, vars);
        }
        if (!e.get(0).equals("[")) {
            return vars.containsKey(e.get(0)) ? vars.get(e.get(0)) : Integer.parseInt(e.get(0));
        }
        int depth = 0;
        for (int i = 0; i < inside.size(); i++) {
            String t = inside.get(i);
            if (t.equals("(") || t.equals("[")) {
                depth++;
            } else if (t.equals(")") || t.equals("]")) {
                depth--;
            } else if (depth == 0 && (t.equals("<") || t.equals("=="))) {
                int left = value(inside.subList(0, i), vars);
                int right = value(inside.subList(i + 1, inside.size()), vars);
                return (t.equals("<") ? left < right : left == right) ? 1 : 0;
            }
        }
        throw new IllegalStateException("no comparison in " + e);
    }

    int like(int law, int person, int fiddle, int bow, int[] setting, int... seenSpotNoise) {
        Map<String, Integer> vars = new HashMap<>();
        for (int i = 0; i < 3; i++) {
            vars.put(VARS.get(i), fiddles.get(fiddle).sounds[i] + bows.get(bow)[i] + setting[i]);
        }
        for (int i = 0; i < 4; i++) {
            vars.put(VARS.get(3 + i), people.get(person).likings[i]);
        }
        vars.put("old", fiddles.get(fiddle).old ? 1 : 0);
        vars.put("far", people.get(person).hearer ? 1 : 0);
        vars.put("seen", seenSpotNoise[0]);
        vars.put("spot", seenSpotNoise[1]);
        vars.put("noise", seenSpotNoise[2]);
        return value(laws.get(law), vars);
    }

    static final int[] UNTOUCHED = {0, 0, 0};

    int liking(int law, int person, int fiddle, int bow, boolean seen, int spot, int noise) {
        if (!in(law, laws) || !in(person, people) || !in(fiddle, fiddles) || !in(bow, bows)
                || !within(0, spot, 9) || !within(0, noise, 9)) {
            return MIN;
        }
        return like(law, person, fiddle, bow, UNTOUCHED, seen ? 1 : 0, spot, noise);
    }

    static int lot(int n, int seed, int which) {
        long mask = 0xFFFFFFFFL;
        long h = seed & mask;
        for (long it : new long[] {11, which}) {
            BigInteger product = BigInteger.valueOf(h ^ it & mask).multiply(BigInteger.valueOf(1103515245));
            h = product.add(BigInteger.valueOf(12345)).and(BigInteger.valueOf(mask)).longValue();
            h = h ^ h / 32768;
        }
        return (int) (h / 2 % n);
    }

    int likingAt(int plan, int law, int seed, int k, int i) {
        Sitting it = plans.get(plan).get(k);
        return like(law, it.person, it.order.get(i), it.bow, UNTOUCHED, it.seen ? 1 : 0, i, lot(10, seed, 10 * k + i));
    }

    int taken(int plan, int law, int seed, int k) {
        if (!in(plan, plans) || !in(law, laws) || !in(k, plans.get(plan))) {
            return NONE;
        }
        List<Integer> order = plans.get(plan).get(k).order;
        int best = 0;
        for (int i = 1; i < order.size(); i++) {
            if (likingAt(plan, law, seed, k, i) > likingAt(plan, law, seed, k, best)) {
                best = i;
            }
        }
        return order.get(best);
    }

    int takes(int plan, int law, int seed, int fiddle) {
        if (!in(plan, plans) || !in(law, laws) || fiddle != NONE && !in(fiddle, fiddles)) {
            return -2;
        }
        int times = 0;
        for (int k = 0; k < plans.get(plan).size(); k++) {
            int taken = taken(plan, law, seed, k);
            times += taken == fiddle || fiddle == NONE && fiddles.get(taken).old ? 1 : 0;
        }
        return times;
    }

    int run(int plan, int law, int guess, int seed) {
        if (!in(plan, plans) || !in(law, laws) || !in(guess, laws)) {
            return NONE;
        }
        List<Fact> coming = new ArrayList<>();
        for (int k = 0; k < plans.get(plan).size(); k++) {
            Sitting it = plans.get(plan).get(k);
            for (int i = 0; i < it.order.size(); i++) {
                Fact fact = new Fact();
                fact.person = it.person;
                fact.fiddle = it.order.get(i);
                int liking = likingAt(plan, law, seed, k, i);
                fact.value = liking < 0 ? 0 : liking > 100 ? 100 : liking;
                fact.spot = i;
                fact.seen = it.seen ? 1 : 0;
                coming.add(fact);
                if (!it.seen) {
                    Fact said = new Fact();
                    said.kind = 1;
                    said.person = it.person;
                    said.fiddle = it.order.get(i);
                    said.value = likingAt(plan, guess, seed, k, i) > 0 ? 1 : 0;
                    coming.add(said);
                }
            }
        }
        if (facts.size() + coming.size() > 80) {
            return NONE;
        }
        facts.addAll(coming);
        memo.clear();
        return coming.size();
    }

    int touch(int law, int person, int fiddle, int bow, int t, boolean most) {
        if (!in(law, laws) || !in(person, people) || !in(fiddle, fiddles) || !in(bow, bows) || !within(0, t, 3)) {
            return MIN;
        }
        List<Integer> all = new ArrayList<>();
        for (int x = -t; x <= t; x++) {
            for (int y = -t; y <= t; y++) {
                for (int z = -t; z <= t; z++) {
                    all.add(like(law, person, fiddle, bow, new int[] {x, y, z}, 0, 0, 0));
                }
            }
        }
        all.sort(null);
        return most ? all.get(all.size() - 1) : all.get(0);
    }

    long gains(int law, int bow, int t, int what) {
        if (!in(law, laws) || !in(bow, bows) || !within(0, t, 3) || !within(0, what, 3)) {
            return -1;
        }
        BigInteger sum = BigInteger.ZERO;
        for (int p = 0; p < people.size(); p++) {
            for (int f = 0; f < fiddles.size(); f++) {
                int kind = (fiddles.get(f).old ? 0 : 1) + (fiddles.get(f).barred ? 2 : 0);
                if (!people.get(p).hearer && kind == what) {
                    sum = sum.add(BigInteger.valueOf(touch(law, p, f, bow, t, true)))
                            .subtract(BigInteger.valueOf(liking(law, p, f, bow, false, 0, 0)));
                }
            }
        }
        return sum.longValueExact();
    }

    // ---- facts

    int add(Fact fact) {
        if (facts.size() >= 80) {
            return NONE;
        }
        facts.add(fact);
        memo.clear();
        return facts.size() - 1;
    }

    int mark(int person, int fiddle, int value, int spot, boolean seen) {
        if (!in(person, people) || !in(fiddle, fiddles) || !within(0, value, 100) || !within(0, spot, 9)) {
            return NONE;
        }
        Fact fact = new Fact();
        fact.person = person;
        fact.fiddle = fiddle;
        fact.value = value;
        fact.spot = spot;
        fact.seen = seen ? 1 : 0;
        return add(fact);
    }

    int guess(int person, int fiddle, boolean old) {
        if (!in(person, people) || !in(fiddle, fiddles)) {
            return NONE;
        }
        Fact fact = new Fact();
        fact.kind = 1;
        fact.person = person;
        fact.fiddle = fiddle;
        fact.value = old ? 1 : 0;
        return add(fact);
    }

    int annul(int it) {
        if (!in(it, facts) || facts.get(it).kind == 2) {
            return NONE;
        }
        Fact fact = new Fact();
        fact.kind = 2;
        fact.person = it;
        return add(fact);
    }

    int fact(int it, int what) {
        if (!in(it, facts)) {
            return NONE;
        }
        Fact fact = facts.get(it);
        return switch (what) {
            case 0 -> fact.kind;
            case 1 -> fact.person;
            case 2 -> fact.fiddle;
            case 3 -> fact.value;
            case 4 -> fact.spot;
            case 5 -> fact.seen;
            default -> NONE;
        };
    }

    boolean badN(int n) {
        return n < 0 || n > facts.size();
    }

    List<Fact> known(int n) {
        Set<Integer> voided = new HashSet<>();
        for (Fact fact : facts.subList(0, n)) {
            if (fact.kind == 2) {
                voided.add(fact.person);
            }
        }
        List<Fact> known = new ArrayList<>();
        for (int i = 0; i < n; i++) {
            Fact fact = facts.get(i);
            if (fact.kind != 2 && !voided.contains(i) && in(fact.person, people) && in(fact.fiddle, fiddles)) {
                known.add(fact);
            }
        }
        return known;
    }

    /** The values of all such MARKS, in their order. */
    List<Integer> marks(int n, int person, int fiddle, boolean seen) {
        List<Integer> marks = new ArrayList<>();
        for (Fact fact : known(n)) {
            if (fact.kind == 0 && fact.person == person && fact.fiddle == fiddle && fact.seen == (seen ? 1 : 0)) {
                marks.add(fact.value);
            }
        }
        return marks;
    }

    int last(int person, int fiddle, boolean seen, int n) {
        if (badN(n) || !in(person, people) || !in(fiddle, fiddles)) {
            return NONE;
        }
        return kept("last " + person + " " + fiddle + " " + seen + " " + n, () -> {
            List<Integer> marks = marks(n, person, fiddle, seen);
            return marks.isEmpty() ? -2 : marks.get(marks.size() - 1);
        });
    }

    int mean(int fiddle, boolean far, int n, int what) {
        if (badN(n) || !in(fiddle, fiddles) || !within(0, what, 1)) {
            return NONE;
        }
        return kept("mean " + fiddle + " " + far + " " + n + " " + what, () -> {
            List<Integer> lasts = new ArrayList<>();
            for (int p = 0; p < people.size(); p++) {
                int last = last(p, fiddle, false, n);
                if (people.get(p).hearer == far && last >= 0) {
                    lasts.add(last);
                }
            }
            return what == 0 ? sum(lasts) : lasts.size();
        });
    }

    int guesses(int n, int what) {
        if (badN(n) || !within(0, what, 4)) {
            return NONE;
        }
        int many = 0;
        for (Fact fact : known(n)) {
            if (fact.kind == 1) {
                boolean old = fiddles.get(fact.fiddle).old;
                boolean says = fact.value == 1;
                many += switch (what) {
                    case 0 -> true;
                    case 1 -> old == says;
                    case 2 -> says;
                    case 3 -> old;
                    default -> old && says;
                } ? 1 : 0;
            }
        }
        return many;
    }

    static BigInteger choose(int n, int k) {
        BigInteger up = BigInteger.ONE;
        BigInteger down = BigInteger.ONE;
        if (k < 0 || k > n) {
            return BigInteger.ZERO;
        }
        for (int i = 1; i <= k; i++) {
            up = up.multiply(BigInteger.valueOf(n - k + i));
            down = down.multiply(BigInteger.valueOf(i));
        }
        return up.divide(down);
    }

    long coin(int n, boolean more) {
        if (badN(n)) {
            return -1;
        }
        int m = guesses(n, 0);
        if (m > 60) {
            return -2;
        }
        BigInteger ways = BigInteger.ZERO;
        for (int k = more ? guesses(n, 1) : 0; k <= m; k++) {
            ways = ways.add(choose(m, k));
        }
        return ways.longValueExact();
    }

    long table(int n, boolean more) {
        if (badN(n)) {
            return -1;
        }
        int m = guesses(n, 0);
        int u = guesses(n, 2);
        int t = guesses(n, 3);
        if (m > 60) {
            return -2;
        }
        BigInteger ways = BigInteger.ZERO;
        for (int k = more ? guesses(n, 4) : 0; k <= t; k++) {
            ways = ways.add(choose(t, k).multiply(choose(m - t, u - k)));
        }
        return ways.longValueExact();
    }

    static final Map<Integer, List<List<Integer>>> ORDERS = new HashMap<>();

    static List<List<Integer>> orders(int n) {
        if (!ORDERS.containsKey(n)) {
            ORDERS.put(n, makeOrders(n));
        }
        return ORDERS.get(n);
    }

    static List<List<Integer>> makeOrders(int n) {
        List<List<Integer>> all = new ArrayList<>();
        all.add(new ArrayList<>());
        for (int i = 0; i < n; i++) {
            List<List<Integer>> longer = new ArrayList<>();
            for (List<Integer> one : all) {
                for (int at = 0; at <= one.size(); at++) {
                    List<Integer> next = new ArrayList<>(one);
                    next.add(at, i);
                    longer.add(next);
                }
            }
            all = longer;
        }
        return all;
    }

    List<int[]> steadyPairs(int n) {
        List<int[]> pairs = new ArrayList<>();
        for (int p = 0; p < people.size(); p++) {
            for (int f = 0; f < fiddles.size(); f++) {
                List<Integer> marks = marks(n, p, f, false);
                int many = marks.size();
                if (!people.get(p).hearer && many >= 2 && pairs.size() < 7) {
                    pairs.add(new int[] {marks.get(many - 2), marks.get(many - 1)});
                }
            }
        }
        return pairs;
    }

    static int off(List<int[]> pairs, List<Integer> order) {
        int off = 0;
        for (int i = 0; i < pairs.size(); i++) {
            off += Math.abs(pairs.get(i)[0] - pairs.get(order.get(i))[1]);
        }
        return off;
    }

    int steady(int n, int what) {
        if (badN(n) || !within(0, what, 1)) {
            return NONE;
        }
        List<int[]> pairs = steadyPairs(n);
        return what == 0 ? pairs.size() : off(pairs, List.of(0, 1, 2, 3, 4, 5, 6));
    }

    int steadyWays(int n) {
        if (badN(n)) {
            return NONE;
        }
        List<int[]> pairs = steadyPairs(n);
        int off = steady(n, 1);
        int ways = 0;
        for (List<Integer> order : orders(pairs.size())) {
            ways += off(pairs, order) <= off ? 1 : 0;
        }
        return ways;
    }

    List<Integer> withMean(int n) {
        List<Integer> with = new ArrayList<>();
        for (int f = 0; f < fiddles.size(); f++) {
            if (mean(f, false, n, 1) > 0) {
                with.add(f);
            }
        }
        return with;
    }

    int common(int n) {
        for (int l = 1;; l++) {
            boolean all = true;
            for (int f : withMean(n)) {
                all &= l % mean(f, false, n, 1) == 0;
            }
            if (all) {
                return l;
            }
        }
    }

    /** D if those of the bits are called old and the MARKS on truly old ones are x more. */
    int apart(int n, int bits, int x, int common) {
        List<Integer> with = withMean(n);
        int o = Integer.bitCount(bits);
        int w = with.size() - o;
        int apart = 0;
        for (int i = 0; i < with.size(); i++) {
            int f = with.get(i);
            int many = mean(f, false, n, 1);
            int s = mean(f, false, n, 0) + (fiddles.get(f).old ? x * many : 0);
            int v = s * common / many;
            apart += (bits >> i & 1) == 1 ? w * v : -o * v;
        }
        return apart;
    }

    int oldBits(int n) {
        List<Integer> with = withMean(n);
        int bits = 0;
        for (int i = 0; i < with.size(); i++) {
            bits |= fiddles.get(with.get(i)).old ? 1 << i : 0;
        }
        return bits;
    }

    int kinds(int n, int what) {
        if (badN(n) || !within(0, what, 3)) {
            return BAD_SUM;
        }
        int o = Integer.bitCount(oldBits(n));
        return switch (what) {
            case 0 -> o;
            case 1 -> withMean(n).size() - o;
            case 2 -> common(n);
            default -> apart(n, oldBits(n), 0, common(n));
        };
    }

    int waysWith(int n, int x, boolean more) {
        int bits = oldBits(n);
        int common = common(n);
        int as = apart(n, bits, x, common);
        int ways = 0;
        for (int called = 0; called < 1 << withMean(n).size(); called++) {
            if (Integer.bitCount(called) == Integer.bitCount(bits)) {
                ways += !more || apart(n, called, x, common) >= as ? 1 : 0;
            }
        }
        return ways;
    }

    int kindWays(int n, boolean more) {
        return badN(n) ? NONE : waysWith(n, 0, more);
    }

    int small(int n) {
        if (badN(n)) {
            return NONE;
        }
        int all = waysWith(n, 0, false);
        for (int x = 0; x <= 100; x++) {
            if (20 * waysWith(n, x, true) <= all) {
                return x;
            }
        }
        return -2;
    }

    List<Integer> players(int n) {
        List<Integer> ds = new ArrayList<>();
        for (int p = 0; p < people.size(); p++) {
            List<Integer> olds = new ArrayList<>();
            List<Integer> news = new ArrayList<>();
            for (int f = 0; f < fiddles.size(); f++) {
                int last = last(p, f, false, n);
                if (last >= 0) {
                    (fiddles.get(f).old ? olds : news).add(last);
                }
            }
            if (!people.get(p).hearer && !olds.isEmpty() && !news.isEmpty()) {
                ds.add(sum(olds) * news.size() - sum(news) * olds.size());
            }
        }
        return ds;
    }

    static int sum(List<Integer> list) {
        int sum = 0;
        for (int one : list) {
            sum += one;
        }
        return sum;
    }

    static int turnWays(List<Integer> ds) {
        int ways = 0;
        for (int bits = 0; bits < 1 << ds.size(); bits++) {
            int turned = 0;
            for (int i = 0; i < ds.size(); i++) {
                turned += (bits >> i & 1) == 1 ? -ds.get(i) : ds.get(i);
            }
            ways += turned >= sum(ds) ? 1 : 0;
        }
        return ways;
    }

    int flips(int n, int what) {
        if (badN(n) || !within(0, what, 1)) {
            return BAD_SUM;
        }
        return what == 0 ? players(n).size() : sum(players(n));
    }

    int flipWays(int n) {
        return badN(n) ? NONE : turnWays(players(n));
    }

    /** Of each PAIR of KNOWING: seen less blind, and 1 if its FIDDLE is old. */
    List<int[]> knowingPairs(int n) {
        List<int[]> pairs = new ArrayList<>();
        for (int p = 0; p < people.size(); p++) {
            for (int f = 0; f < fiddles.size(); f++) {
                int seen = last(p, f, true, n);
                int blind = last(p, f, false, n);
                if (!people.get(p).hearer && seen >= 0 && blind >= 0) {
                    pairs.add(new int[] {seen - blind, fiddles.get(f).old ? 1 : 0});
                }
            }
        }
        return pairs.subList(0, Math.min(12, pairs.size()));
    }

    List<Integer> knowingDs(int n, int... kinds) {
        List<Integer> ds = new ArrayList<>();
        for (int[] pair : knowingPairs(n)) {
            for (int kind : kinds) {
                if (pair[1] == kind) {
                    ds.add(pair[0]);
                }
            }
        }
        return ds;
    }

    int knowing(int n, int what) {
        if (badN(n) || !within(0, what, 2)) {
            return BAD_SUM;
        }
        return switch (what) {
            case 0 -> knowingPairs(n).size();
            case 1 -> sum(knowingDs(n, 1));
            default -> sum(knowingDs(n, 0));
        };
    }

    int knowingWays(int n) {
        return badN(n) ? NONE : turnWays(knowingDs(n, 0, 1));
    }

    int spot(int n, int spot, int what) {
        if (badN(n) || !within(0, spot, 9) || !within(0, what, 1)) {
            return NONE;
        }
        int sum = 0;
        int many = 0;
        for (Fact fact : known(n)) {
            if (fact.kind == 0 && fact.seen == 0 && fact.spot == spot && !people.get(fact.person).hearer) {
                sum += fact.value;
                many++;
            }
        }
        return what == 0 ? sum : many;
    }

    int right(int n, int fiddle) {
        if (badN(n) || !in(fiddle, fiddles)) {
            return BAD_SUM;
        }
        int sum = 0;
        for (Fact fact : known(n)) {
            if (fact.kind == 0 && fact.seen == 0 && fact.fiddle == fiddle && !people.get(fact.person).hearer) {
                sum += 100 * fact.value - 100 * spot(n, fact.spot, 0) / spot(n, fact.spot, 1);
            }
        }
        return sum;
    }

    static int partedBy(int[] one, int[] two) {
        return Integer.compare(one[0] * two[1], two[0] * one[1]);
    }

    int[] meanOf(int f, boolean far, int n) {
        return new int[] {mean(f, far, n, 0), mean(f, far, n, 1)};
    }

    List<Integer> nearAndFar(int n) {
        List<Integer> both = new ArrayList<>();
        for (int f = 0; f < fiddles.size(); f++) {
            if (mean(f, false, n, 1) > 0 && mean(f, true, n, 1) > 0 && both.size() < 6) {
                both.add(f);
            }
        }
        return both;
    }

    List<int[]> means(int n, boolean far) {
        List<int[]> means = new ArrayList<>();
        for (int f : nearAndFar(n)) {
            means.add(meanOf(f, far, n));
        }
        return means;
    }

    static int[] alikes(List<int[]> nears, List<int[]> fars, List<Integer> order) {
        int alike = 0;
        int unlike = 0;
        for (int i = 0; i < nears.size(); i++) {
            for (int j = 0; j < i; j++) {
                int near = partedBy(nears.get(i), nears.get(j));
                int far = partedBy(fars.get(order.get(i)), fars.get(order.get(j)));
                alike += near != 0 && near == far ? 1 : 0;
                unlike += near != 0 && near == -far ? 1 : 0;
            }
        }
        return new int[] {alike, unlike};
    }

    int near(int n, int what) {
        if (badN(n) || !within(0, what, 2)) {
            return NONE;
        }
        return what == 0 ? nearAndFar(n).size()
                : alikes(means(n, false), means(n, true), List.of(0, 1, 2, 3, 4, 5))[what - 1];
    }

    int nearWays(int n) {
        if (badN(n)) {
            return NONE;
        }
        int as = near(n, 1) - near(n, 2);
        int ways = 0;
        List<int[]> nears = means(n, false);
        List<int[]> fars = means(n, true);
        for (List<Integer> order : orders(nears.size())) {
            int[] here = alikes(nears, fars, order);
            ways += here[0] - here[1] >= as ? 1 : 0;
        }
        return ways;
    }

    int beats(int n, int fiddle, int other) {
        if (badN(n) || !in(fiddle, fiddles) || !in(other, fiddles)) {
            return NONE;
        }
        int players = 0;
        for (int p = 0; p < people.size(); p++) {
            int one = last(p, fiddle, false, n);
            int two = last(p, other, false, n);
            players += !people.get(p).hearer && one >= 0 && two >= 0 && one > two ? 1 : 0;
        }
        return players;
    }

    int winner(int n) {
        if (badN(n)) {
            return NONE;
        }
        for (int f : withMean(n)) {
            boolean wins = true;
            for (int other : withMean(n)) {
                wins &= f == other || beats(n, f, other) > beats(n, other, f);
            }
            if (wins) {
                return f;
            }
        }
        return -2;
    }

    int best(int n, boolean worst) {
        if (badN(n)) {
            return NONE;
        }
        int best = -2;
        for (int f : withMean(n)) {
            if (best == -2) {
                best = f;
            }
            int parted = partedBy(meanOf(f, false, n), meanOf(best, false, n));
            if (worst ? parted < 0 : parted > 0) {
                best = f;
            }
        }
        return best;
    }

    int need(int u, int v, int a, int b, int what) {
        if (!within(2, u, 1000) || !within(2, v, 1000) || !within(2, b, 4) || !within(0, a, b) || !within(0, what, 1)) {
            return NONE;
        }
        for (int n = 1; n <= 30; n++) {
            for (int r = 0; r <= n + 1; r++) {
                BigInteger coins = BigInteger.ZERO;
                BigInteger tries = BigInteger.ZERO;
                for (int k = 0; k <= n; k++) {
                    if (k >= r) {
                        coins = coins.add(choose(n, k));
                    } else {
                        tries = tries.add(choose(n, k).multiply(BigInteger.valueOf(a).pow(k))
                                .multiply(BigInteger.valueOf(b - a).pow(n - k)));
                    }
                }
                if (coins.multiply(BigInteger.valueOf(u)).compareTo(BigInteger.TWO.pow(n)) <= 0
                        && tries.multiply(BigInteger.valueOf(v)).compareTo(BigInteger.valueOf(b).pow(n)) <= 0) {
                    return what == 0 ? n : r;
                }
            }
        }
        return -2;
    }

    int parts(int plan, int law, int other, int seed) {
        if (!in(plan, plans) || !in(law, laws) || !in(other, laws)) {
            return NONE;
        }
        int parts = 0;
        for (int k = 0; k < plans.get(plan).size(); k++) {
            parts += taken(plan, law, seed, k) == taken(plan, other, seed, k) ? 0 : 1;
        }
        return parts;
    }

    int next(int law, int other, int seed) {
        if (!in(law, laws) || !in(other, laws)) {
            return NONE;
        }
        List<Integer> order = new ArrayList<>();
        for (int plan = 0; plan < plans.size(); plan++) {
            order.add(plan);
        }
        order.sort((one, two) -> {
            int more = Integer.compare(parts(two, law, other, seed), parts(one, law, other, seed));
            return more != 0 ? more : Integer.compare(plans.get(one).size(), plans.get(two).size());
        });
        return order.isEmpty() ? -2 : order.get(0);
    }

    static boolean rare(long ways, long all) {
        return BigInteger.valueOf(ways).multiply(BigInteger.valueOf(20)).compareTo(BigInteger.valueOf(all)) <= 0;
    }

    int say(int n) {
        if (badN(n)) {
            return NONE;
        }
        return kept("say " + n, () -> sayings(n));
    }

    int sayings(int n) {
        int say = 0;
        if (guesses(n, 0) > 0 && coin(n, true) != -2 && rare(coin(n, true), coin(n, false))) {
            say |= 1;
        }
        if (rare(kindWays(n, true), kindWays(n, false))) {
            say |= 2;
        }
        if (rare(flipWays(n), 1L << flips(n, 0))) {
            say |= 4;
        }
        if (knowing(n, 0) > 0 && rare(knowingWays(n), 1L << knowing(n, 0))) {
            say |= 8;
        }
        if (steady(n, 0) > 0 && rare(steadyWays(n), orders(steady(n, 0)).size())) {
            say |= 16;
        }
        if (rare(nearWays(n), orders(near(n, 0)).size())) {
            say |= 32;
        }
        int winner = winner(n);
        if (winner >= 0) {
            say |= fiddles.get(winner).old ? 64 : 128;
        }
        return say;
    }

    int turned(int from) {
        if (!in(from, facts)) {
            return NONE;
        }
        for (int fact = from; fact < facts.size(); fact++) {
            if (say(fact + 1) != say(fact)) {
                return fact;
            }
        }
        return NONE;
    }

    int count(int what) {
        return switch (what) {
            case 0 -> fiddles.size();
            case 1 -> people.size();
            case 2 -> bows.size();
            case 3 -> laws.size();
            case 4 -> plans.size();
            case 5 -> facts.size();
            case 6 -> tape.size();
            case 10, 11, 12, 13 -> what - 10 < plans.size() ? plans.get(what - 10).size() : NONE;
            default -> NONE;
        };
    }
}
