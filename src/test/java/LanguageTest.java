import java.lang.management.ManagementFactory;
import java.lang.reflect.Constructor;
import java.lang.reflect.Field;
import java.lang.reflect.Method;
import java.lang.reflect.Modifier;
import java.nio.file.Files;
import java.nio.file.Path;
import java.util.Arrays;
import java.util.List;
import java.util.Set;
import java.util.TreeSet;
import java.util.regex.Matcher;
import java.util.regex.Pattern;

/** The rules of LANGUAGE.md that can be seen: in the source, in the class as it is, and in what its calls make. */
public final class LanguageTest {
    private static final String FACE = "annul(int) back(int) beats(int,int,int) best(int,boolean) coin(int,boolean) "
            + "count(int) fact(int,int) feed(int,int,int,int,int) fiddle(int,int) flipWays(int) flips(int,int) "
            + "gains(int,int,int,int) guess(int,int,boolean) guesses(int,int) kindWays(int,boolean) kinds(int,int) "
            + "knowing(int,int) knowingWays(int) last(int,int,boolean,int) liking(int,int,int,int,boolean,int,int) "
            + "mark(int,int,int,int,boolean) mean(int,boolean,int,int) near(int,int) nearWays(int) "
            + "need(int,int,int,int,int) next(int,int,int) parts(int,int,int,int) person(int,int) place() read() "
            + "right(int,int) run(int,int,int,int) say(int) sitting(int,int,int) small(int) spot(int,int,int) "
            + "steady(int,int) steadyWays(int) table(int,boolean) taken(int,int,int,int) takes(int,int,int,int) "
            + "touch(int,int,int,int,int,boolean) turned(int) winner(int)";
    private static final Set<String> LONGS = Set.of("gains", "coin", "table");

    private static int wrong = 0;

    private static void must(boolean holds, String what) {
        if (!holds) {
            wrong++;
            System.out.println("not so: " + what);
        }
    }

    public static void main(String[] args) throws Exception {
        face();
        for (Class<?> one : BlindFiddles.class.getDeclaredClasses()) {
            inside(one);
        }
        must(BlindFiddles.class.getDeclaredClasses().length <= 12, "rule 11: some twelve classes");
        source(Files.readString(Path.of("src/main/java/BlindFiddles.java")));
        makesNothing();
        System.out.println(wrong == 0 ? "all rules are kept" : wrong + " rules are not kept");
        if (wrong != 0) {
            System.exit(1);
        }
    }

    private static void face() throws Exception {
        Class<?> it = BlindFiddles.class;
        must(it.getModifiers() == (Modifier.PUBLIC | Modifier.FINAL), "rule 1: public and final");
        Set<String> face = new TreeSet<>();
        Set<String> names = new TreeSet<>();
        for (Method method : it.getDeclaredMethods()) {
            if (Modifier.isPublic(method.getModifiers())) {
                StringBuilder form = new StringBuilder(method.getName()).append('(');
                for (Class<?> type : method.getParameterTypes()) {
                    form.append(form.charAt(form.length() - 1) == '(' ? "" : ",").append(type.getName());
                }
                face.add(form.append(')').toString());
                names.add(method.getName());
                Class<?> answer = LONGS.contains(method.getName()) ? long.class : int.class;
                must(method.getReturnType() == answer, "rule 1: what " + method.getName() + " answers");
            }
        }
        must(face.equals(new TreeSet<>(Arrays.asList(FACE.split(" ")))), "rule 1: the face is " + face);
        for (Method method : it.getDeclaredMethods()) {
            boolean isPrivate = Modifier.isPrivate(method.getModifiers());
            must(isPrivate != Modifier.isPublic(method.getModifiers()), "rule 1: " + method + " is public or private");
            must(!isPrivate || !names.contains(method.getName()), "rule 1: the name of " + method);
        }
        for (Class<?> inner : it.getDeclaredClasses()) {
            for (Method method : inner.getDeclaredMethods()) {
                must(!names.contains(method.getName()), "rule 1: the name of " + method);
            }
        }
        for (Field field : it.getDeclaredFields()) {
            must(Modifier.isPrivate(field.getModifiers()) || field.getName().equals("NONE"), "rule 1: " + field);
        }
        Constructor<?>[] made = it.getDeclaredConstructors();
        must(made.length == 1 && made[0].getParameterCount() == 0 && Modifier.isPublic(made[0].getModifiers()),
                "rule 1: one constructor");
        must(Modifier.isPublic(it.getDeclaredField("NONE").getModifiers()), "rule 1: NONE");
        fields(it);
    }

    private static void inside(Class<?> one) {
        must(Modifier.isStatic(one.getModifiers()), "rule 2: " + one + " is static");
        must(one.getDeclaredClasses().length == 0, "rule 2: no class inside " + one);
        fields(one);
    }

    private static void fields(Class<?> one) {
        int own = 0;
        for (Field field : one.getDeclaredFields()) {
            if (Modifier.isStatic(field.getModifiers())) {
                Class<?> type = field.getType();
                must(Modifier.isFinal(field.getModifiers()), "rule 5: " + field + " is final");
                must(List.of(int.class, long.class, boolean.class, char.class, String.class).contains(type),
                        "rule 5: the type of " + field);
            } else {
                own++;
            }
        }
        must(own <= 20, "rule 11: some twenty fields, not " + own + " in " + one);
        for (Method method : one.getDeclaredMethods()) {
            must(method.getParameterCount() <= 7, "rule 11: seven parameters of " + method);
        }
    }

    private static void source(String text) {
        String code = text.replaceAll("(?s)/\\*.*?\\*/", "").replaceAll("//[^\n]*", "");
        Matcher strings = Pattern.compile("\"[^\"\n]*\"").matcher(code);
        code = strings.replaceAll("\"\"").replaceAll("'[^'\n]*'", "' '");
        must(!text.contains("package "), "no package line");
        must(text.chars().allMatch(sign -> sign == 10 || sign >= 32 && sign < 127), "rule 4: plain signs");
        for (String word : List.of("throw", "throws", "try", "catch", "synchronized", "assert", "instanceof", "goto",
                "hashCode", "toString", "var", "yield", "native", "volatile", "transient", "strictfp", "double",
                "float", "Exception", "Error", "Object", "Thread", "Random", "System", "Integer", "Long")) {
            must(!Pattern.compile("\\b" + word + "\\b").matcher(code).find(), "no '" + word + "' is needed");
        }
        must(!code.contains("->") && !code.contains("::"), "rule 2: no lambda, no method reference");
        must(!Pattern.compile("\\w+Exact\\b").matcher(code).find(), "rule 4: none of the Exact ones");
        must(!Pattern.compile("\\bstatic\\s*\\{").matcher(code).find(), "rule 5: no static block");
        must(!Pattern.compile("\"\"\\s*\\+|\\+\\s*\"\"").matcher(code).find(), "rule 10: no joining by +");
        must(!Pattern.compile("while\\s*\\(true|for\\s*\\(;;").matcher(code).find(), "rule 9: every loop ends");
        Matcher imports = Pattern.compile("import ([^;]+);").matcher(code);
        while (imports.find()) {
            must(imports.group(1).equals("java.util.Arrays"), "rule 4: import of " + imports.group(1));
        }
        Matcher calls = Pattern.compile("\\b(Math|Arrays)\\.(\\w+)").matcher(code);
        while (calls.find()) {
            must(Set.of("max", "min", "abs", "fill").contains(calls.group(2)), "rule 4: " + calls.group());
        }
        lengths(text.split("\n"));
        makesInCallsNothing(code);
    }

    private static void lengths(String[] lines) {
        Pattern head = Pattern.compile("^( {4}| {8})(?:(?:public|private|static|final) )*[\\w\\[\\]]+ ?\\w*\\(.*\\{$");
        int from = -1;
        String indent = "";
        for (int i = 0; i < lines.length; i++) {
            Matcher begins = head.matcher(lines[i]);
            if (from < 0 && begins.matches()) {
                from = i;
                indent = begins.group(1);
            } else if (from >= 0 && lines[i].equals(indent + "}")) {
                must(i - from < 60, "rule 11: the length of " + lines[from].trim());
                from = -1;
            }
        }
    }

    /** 'new' stands only where a field is made. */
    private static void makesInCallsNothing(String code) {
        for (String line : code.split("\n")) {
            if (line.contains("new ")) {
                must(line.matches(" *(private |final )*[\\w\\[\\]]+ \\w+ = new .*;"), "rule 12: made in a call: " + line);
            }
        }
    }

    /** After the constructor no call makes an object. */
    private static void makesNothing() {
        com.sun.management.ThreadMXBean threads = (com.sun.management.ThreadMXBean) ManagementFactory.getThreadMXBean();
        long least = Long.MAX_VALUE;
        for (int round = 0; round < 5; round++) {
            BlindFiddles x = new BlindFiddles();
            Due.tell(x, "fiddle a old 1 2 3;fiddle b new 3 2 1;player p 1 2 3 4;hearer h 1 2 3 4;bow w 0 1 -1;"
                    + "law l=bright*warm+[loud<quick]*noise;law m=old;plan x{sit p with w:a,b;sit h with w seen:b;}");
            long before = threads.getThreadAllocatedBytes(Thread.currentThread().getId());
            everyCall(x);
            long after = threads.getThreadAllocatedBytes(Thread.currentThread().getId());
            least = Math.min(least, after - before);
        }
        must(least < 500, "rule 12: calls make no objects, not " + least + " bytes");
    }

    private static long everyCall(BlindFiddles x) {
        long sum = x.fiddle(0, 1) + x.person(0, 1) + x.sitting(0, 0, 10) + x.liking(0, 0, 0, 0, false, 1, 2)
                + x.taken(0, 0, 7, 0) + x.takes(0, 0, 7, 0) + x.touch(0, 0, 0, 0, 3, true) + x.gains(0, 0, 3, 0);
        for (int i = 0; i < 12; i++) {
            sum += x.run(0, 0, 1, i);
        }
        sum += x.mark(0, 0, 1, 1, true) + x.guess(0, 0, true) + x.annul(2) + x.fact(0, 0);
        int n = x.count(5);
        sum += x.last(0, 0, false, n) + x.mean(0, false, n, 0) + x.guesses(n, 0) + x.coin(n, true) + x.table(n, true)
                + x.steady(n, 1) + x.steadyWays(n) + x.kinds(n, 3) + x.kindWays(n, true) + x.flips(n, 1)
                + x.flipWays(n) + x.small(n) + x.knowing(n, 1) + x.knowingWays(n) + x.spot(n, 0, 0) + x.right(n, 0)
                + x.near(n, 1) + x.nearWays(n) + x.beats(n, 0, 1) + x.winner(n) + x.best(n, true)
                + x.need(20, 20, 3, 4, 0) + x.parts(0, 0, 1, 7) + x.next(0, 1, 7) + x.say(n) + x.turned(0);
        return sum + x.feed(1, 2, 3, 4, 5) + x.back(3) + x.read() + x.place();
    }
}
