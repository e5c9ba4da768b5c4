import java.io.IOException;
import java.lang.management.ManagementFactory;
import java.lang.reflect.Constructor;
import java.lang.reflect.Field;
import java.lang.reflect.Method;
import java.lang.reflect.Modifier;
import java.nio.file.Files;
import java.nio.file.Path;
import java.util.ArrayList;
import java.util.Arrays;
import java.util.List;
import java.util.Random;
import java.util.TreeSet;
import java.util.regex.Matcher;
import java.util.regex.Pattern;

/** Those rules of ../shared/LANGUAGE.md that can be seen from outside, and the room that calls take. */
public final class LanguageTest {
    private static final Due DUE = new Due();

    public static void main(String[] args) throws IOException {
        String source = Files.readString(Path.of("src/main/java/TagReaders.java"));
        String code = source.replaceAll("//[^\n]*", "").replaceAll("(?s)/\\*.*?\\*/", "");
        signs(source);
        words(code);
        library(code);
        methods(code);
        loopsHaveABound(code);
        face();
        classesInside();
        noCallThrows();
        room();
        DUE.end();
    }

    private static void signs(String source) {
        DUE.part("signs");
        for (int i = 0; i < source.length(); i++) {
            char c = source.charAt(i);
            DUE.is("sign " + (int) c, c == '\n' || c >= 32 && c < 127, true);
        }
    }

    private static void words(String code) {
        DUE.part("words");
        String[] forbidden = {"\\bthrows?\\b", "\\btry\\b", "\\bcatch\\b", "\\bsynchronized\\b", "\\bassert\\b", "->", "::",
            "\\bequals\\b", "\\bhashCode\\b", "\\btoString\\b", "Exact\\b", "\\bwhile\\b", "\\binstanceof\\b", "\\bvar\\b",
            "\\bvolatile\\b", "\\bnative\\b", "\\btransient\\b", "\\bimport\\b", "\\bpackage\\b", "\\bprotected\\b",
            "static \\{", "\\bfloat\\b", "\\bdouble\\b"};
        for (String word : forbidden) {
            DUE.is(word, Pattern.compile(word).matcher(code).find(), false);
        }
    }

    private static void library(String code) {
        DUE.part("library");
        TreeSet<String> used = new TreeSet<>();
        Matcher m = Pattern.compile("\\b(Integer|Long|Math|System|Arrays|String|List|ArrayList)\\.\\w+").matcher(code);
        while (m.find()) {
            used.add(m.group());
        }
        List<String> known = List.of("Integer.bitCount", "Integer.numberOfTrailingZeros", "Math.floorMod", "Math.max",
            "Math.min", "System.arraycopy");
        for (String one : used) {
            DUE.is(one, known.contains(one), true);
        }
    }

    private static void methods(String code) {
        DUE.part("methods");
        String[] lines = code.split("\n");
        for (int i = 0; i < lines.length; i++) {
            Matcher m = Pattern.compile("^( +)\\b([\\w\\[\\] ]*?)(\\w+)\\((.*)\\) \\{$").matcher(lines[i]);
            if (m.find() && !lines[i].matches(" +(if|for|switch|else|return|\\}).*")) {
                int end = i;
                boolean callsItself = false;
                while (!lines[end].equals(m.group(1) + "}")) {
                    end++;
                    callsItself |= Pattern.compile("(?<![\\w.])" + m.group(3) + "\\(").matcher(lines[end]).find();
                }
                DUE.is(lines[i].trim() + " is short", end - i <= 60, true);
                DUE.is(lines[i].trim() + " has few parameters", m.group(4).split(",").length <= 7, true);
                DUE.is(lines[i].trim() + " may call itself", !callsItself || m.group(2).startsWith("private static "), true);
            }
        }
    }

    private static void loopsHaveABound(String code) {
        DUE.part("loops");
        Matcher m = Pattern.compile("for \\(int (\\w+) = [^;]+; ([^;]+); [^;]+\\) \\{").matcher(code);
        int loops = 0;
        while (m.find()) {
            loops++;
            DUE.is(m.group(), m.group(2).matches("(.* && )?" + m.group(1) + " (<|<=|>=) .*"), true);
        }
        DUE.is("all loops are such", code.split("\\bfor\\b", -1).length - 1, loops);
    }

    private static void face() {
        DUE.part("face");
        TreeSet<String> shown = new TreeSet<>();
        for (Method m : TagReaders.class.getDeclaredMethods()) {
            if (!Modifier.isPrivate(m.getModifiers()) && !m.isSynthetic()) {
                shown.add(signature(m));
            }
        }
        TreeSet<String> due = new TreeSet<>(List.of("boolean set int int", "int state int", "boolean tune int int int",
            "boolean tag int int int", "boolean gone int", "boolean move int int", "boolean power int boolean",
            "int select int int int int int int", "boolean put int int int int int", "int begin int int int int int",
            "boolean stop int", "int tick int", "int tagOf int int", "int bits int int int", "int reader int int",
            "int prefix int int int", "int learnt int int int", "int jammed int", "int channels int", "int cover",
            "int read int int", "int wouldHave int int int int", "int queries int int int int", "int lasts int",
            "long ways int int int", "long hope int int int", "int best int", "int guess int int int", "int least int",
            "int sharp int", "int values int int", "int fadesIn int int", "int both int int", "int open int int",
            "int apart int int", "int log int int", "int never int", "int count int", "boolean image boolean", "int look int"));
        DUE.is("methods " + shown, shown.equals(due), true);
        for (Field f : TagReaders.class.getDeclaredFields()) {
            DUE.is(f.getName(), Modifier.isPrivate(f.getModifiers()) || f.getName().equals("NONE"), true);
        }
        Constructor<?>[] constructors = TagReaders.class.getDeclaredConstructors();
        DUE.is("constructors", constructors.length, 1);
        DUE.is("public and final", TagReaders.class.getModifiers() & ~32, Modifier.PUBLIC | Modifier.FINAL);
    }

    private static String signature(Method m) {
        StringBuilder text = new StringBuilder(m.getReturnType() + " " + m.getName());
        for (Class<?> c : m.getParameterTypes()) {
            text.append(" ").append(c);
        }
        return text.toString();
    }

    private static void classesInside() {
        DUE.part("classes inside");
        TreeSet<String> publicNames = new TreeSet<>();
        for (Method m : TagReaders.class.getMethods()) {
            publicNames.add(m.getName());
        }
        List<Class<?>> all = new ArrayList<>(Arrays.asList(TagReaders.class.getDeclaredClasses()));
        DUE.is("some twelve", all.size() <= 12, true);
        all.add(TagReaders.class);
        for (Class<?> c : all) {
            DUE.is(c + " is static", c == TagReaders.class || Modifier.isStatic(c.getModifiers()), true);
            int fields = 0;
            for (Field f : c.getDeclaredFields()) {
                boolean isConstant = Modifier.isStatic(f.getModifiers());
                DUE.is(f + " is final", !isConstant || Modifier.isFinal(f.getModifiers()), true);
                fields += isConstant ? 0 : 1;
            }
            DUE.is(c + " has some twenty fields", fields <= 20, true);
            for (Method m : c.getDeclaredMethods()) {
                boolean isHidden = c != TagReaders.class || Modifier.isPrivate(m.getModifiers());
                DUE.is(m + " bears no public name", isHidden && publicNames.contains(m.getName()), false);
            }
        }
    }

    /** Any arguments in any state: mostly such as can be, with wild ones among them. */
    private static void noCallThrows() {
        DUE.part("rule 7");
        List<Method> methods = new ArrayList<>();
        for (Method m : TagReaders.class.getDeclaredMethods()) {
            if (Modifier.isPublic(m.getModifiers())) {
                methods.add(m);
            }
        }
        methods.sort((a, b) -> a.getName().compareTo(b.getName()));
        for (int seed = 1; seed <= 60; seed++) {
            Random chance = new Random(seed);
            TagReaders x = new TagReaders();
            for (int i = 0; i < 3000; i++) {
                Method m = methods.get(chance.nextInt(methods.size()));
                Object[] wild = wild(chance, m, seed % 3 == 0);
                try {
                    m.invoke(x, wild);
                    DUE.is(m.getName(), true, true);
                } catch (ReflectiveOperationException e) {
                    DUE.is(m.getName() + Arrays.toString(wild) + " throws " + e.getCause(), true, false);
                }
            }
        }
    }

    private static Object[] wild(Random chance, Method m, boolean often) {
        int[] edges = {Integer.MIN_VALUE, Integer.MIN_VALUE + 1, -33, -32, -2, -1, 16, 17, 23, 24, 31, 32, 33, 40, 60, 64, 256, 512,
            65535, 65536, Integer.MAX_VALUE - 1, Integer.MAX_VALUE};
        Class<?>[] kinds = m.getParameterTypes();
        Object[] all = new Object[kinds.length];
        for (int k = 0; k < kinds.length; k++) {
            boolean isWild = chance.nextInt(often ? 3 : 12) == 0;
            int small = chance.nextInt(chance.nextBoolean() ? 4 : 25);
            boolean isMemory = m.getName().equals("tag") && k == 1;
            int number = isMemory ? chance.nextInt() : isWild ? edges[chance.nextInt(edges.length)] : small;
            all[k] = kinds[k] == boolean.class ? (Object) chance.nextBoolean() : (Object) number;
        }
        return all;
    }

    /** Behind the first IMAGE and the first thought no call makes an object any more. */
    private static void room() {
        DUE.part("room");
        com.sun.management.ThreadMXBean bean = (com.sun.management.ThreadMXBean) ManagementFactory.getThreadMXBean();
        TagReaders x = new TagReaders();
        long sum = busyLife(x, 3);
        long before = bean.getCurrentThreadAllocatedBytes();
        long between = bean.getCurrentThreadAllocatedBytes();
        sum += busyLife(x, 20);
        long after = bean.getCurrentThreadAllocatedBytes();
        DUE.is("bytes taken by calls", after - between <= 2 * (between - before), true);
        DUE.is("something was done", sum != 0, true);
        long start = bean.getCurrentThreadAllocatedBytes();
        TagReaders y = new TagReaders();
        sum = busyLife(y, 1);
        long bytes = bean.getCurrentThreadAllocatedBytes() - start;
        DUE.is("bytes of a whole life: " + bytes, bytes < 200000, true);
    }

    private static long busyLife(TagReaders x, int rounds) {
        long sum = 0;
        for (int round = 0; round < rounds; round++) {
            for (int i = 0; i < 24; i++) {
                x.tag(i, i * 2654 + round << 16, 1 + i % 15);
            }
            for (int r = 0; r < 4; r++) {
                x.power(r, true);
                sum += x.select(r, 4, round % 8, round % 30, 2, round);
                sum += x.queries(r, 0, 0, 0) + x.begin(r, r, 0, 0, (r + round) % 4);
                sum += x.lasts(r) + x.wouldHave(r, 0, 0, 0);
            }
            x.image(round % 2 == 0);
            x.tick(40);
            sum += x.channels(4) + x.cover() + x.least(0) + x.sharp(0) + x.values(0, 5) + x.best(7) + x.guess(1, 1, 2);
            sum += x.ways(7, 3, 2) + x.hope(5, 2, 0) + x.both(0, 1) + x.open(0, 0) + x.log(3, 2) + x.reader(0, 19);
            for (int i = 0; i < 24; i += 2) {
                x.gone(i);
            }
        }
        return sum;
    }
}
