import java.lang.reflect.Constructor;
import java.lang.reflect.Field;
import java.lang.reflect.Method;
import java.lang.reflect.Modifier;
import java.nio.file.Files;
import java.nio.file.Path;
import java.util.ArrayList;
import java.util.HashSet;
import java.util.List;
import java.util.Set;
import java.util.TreeSet;
import java.util.regex.Matcher;
import java.util.regex.Pattern;

/** The rules of LANGUAGE.md that can be seen from the class and from its source. */
public final class LanguageTest {
    private static final String SOURCE = "src/main/java/DeadStick.java";
    private static final String[] FACE = {
        "land(int,int)", "lay(int,int)", "cellOf(int,int)", "craft(int,int)", "craftOf(int)", "table(int,int)",
        "fly(int)", "acts()", "end(int,int,int,int,int)", "endOf(int,int)", "spare(int)", "late(int)", "can()",
        "bestEnd()", "plan(int)", "planOf(int,int)", "scene(int,int,int,int)", "flown(int,int,int)",
        "odds(int,int,int)", "mean(int,int)", "bestPlan()", "feed(long,int)", "read()", "line(int,int)", "hand()",
        "ruled(int)", "prove(int)", "row(int,int)", "alterRow(int,int,int)", "judge()", "step(int,int,int)",
        "worth(int)", "order(int)", "job(int)", "shared(int)", "trial(boolean,int,int)",
        "fair(int,int,boolean,int)", "sheet(int,int,int)", "put(int,int,int)", "item(int,int,int)",
        "flies(int,int,int)", "shelf(int,int,int)", "taken(int,int)", "ask(int,int,int)", "trace(int)", "many(int)",
        "keep()", "again()",
    };
    private static int wrong = 0;

    private static void must(boolean good, String what) {
        if (good) return;
        wrong++;
        System.out.println(what);
    }

    public static void main(String[] args) throws Exception {
        face();
        nested();
        String source = Files.readString(Path.of(SOURCE));
        String code = withoutTextsAndComments(source);
        words(code);
        imports(source);
        methods(code);
        System.out.println(wrong == 0 ? "the rules are kept" : wrong + " rules are not kept");
        if (wrong != 0) System.exit(1);
    }

    private static void face() {
        Class<?> c = DeadStick.class;
        must(Modifier.isPublic(c.getModifiers()) && Modifier.isFinal(c.getModifiers()), "public final");
        Set<String> open = new TreeSet<>();
        Set<String> names = new HashSet<>();
        for (String f : FACE) names.add(f.substring(0, f.indexOf('(')));
        for (Method m : c.getDeclaredMethods()) {
            if (m.isSynthetic()) continue;
            StringBuilder sign = new StringBuilder(m.getName()).append('(');
            for (Class<?> p : m.getParameterTypes()) sign.append(sign.charAt(sign.length() - 1) == '(' ? "" : ",").append(p.getName());
            sign.append(')');
            if (Modifier.isPrivate(m.getModifiers())) {
                must(!names.contains(m.getName()), "a private method bears a public name: " + sign);
                continue;
            }
            must(m.getModifiers() == Modifier.PUBLIC && m.getReturnType() == int.class, "not as told: " + sign);
            open.add(sign.toString());
        }
        must(open.equals(new TreeSet<>(List.of(FACE))), "the face is another: " + open);
        Set<String> constants = new TreeSet<>();
        for (Field f : c.getDeclaredFields()) {
            if (f.isSynthetic() || Modifier.isPrivate(f.getModifiers())) continue;
            int due = Modifier.PUBLIC | Modifier.STATIC | Modifier.FINAL;
            must(f.getModifiers() == due && f.getType() == int.class, "not as told: " + f);
            constants.add(f.getName());
        }
        must(constants.equals(new TreeSet<>(List.of("BAD", "FULL", "NONE", "STATE"))), "constants: " + constants);
        Constructor<?>[] made = c.getDeclaredConstructors();
        must(made.length == 1 && made[0].getModifiers() == Modifier.PUBLIC && made[0].getParameterCount() == 0, "constructor");
    }

    private static void nested() {
        Class<?>[] inside = DeadStick.class.getDeclaredClasses();
        must(inside.length <= 11, "classes: " + inside.length);
        Set<String> names = new HashSet<>();
        for (String f : FACE) names.add(f.substring(0, f.indexOf('(')));
        List<Class<?>> all = new ArrayList<>(List.of(inside));
        all.add(DeadStick.class);
        for (Class<?> c : all) {
            if (c != DeadStick.class) {
                must(Modifier.isStatic(c.getModifiers()) && Modifier.isPrivate(c.getModifiers()), "open or inner: " + c);
                for (Method m : c.getDeclaredMethods()) {
                    must(!names.contains(m.getName()), "a method inside bears a public name: " + m);
                }
            }
            int fields = 0;
            for (Field f : c.getDeclaredFields()) {
                boolean isStatic = Modifier.isStatic(f.getModifiers());
                if (!isStatic) fields++;
                must(!isStatic || Modifier.isFinal(f.getModifiers()), "static state: " + f);
            }
            must(fields <= 20, "fields of " + c + ": " + fields);
            for (Method m : c.getDeclaredMethods()) must(m.getParameterCount() <= 7, "parameters of " + m);
        }
    }

    private static String withoutTextsAndComments(String source) {
        String code = source.replaceAll("(?s)/\\*.*?\\*/", " ");
        code = code.replaceAll("//[^\n]*", " ");
        code = code.replaceAll("\"(?:[^\"\\\\\n]|\\\\.)*\"", "\"\"");
        return code.replaceAll("'(?:[^'\\\\\n]|\\\\.)'", "' '");
    }

    private static void words(String code) {
        String[] banned = {
            "throw", "throws", "try", "catch", "finally", "synchronized", "assert", "volatile", "native", "protected",
            "package", "hashCode", "System\\.out", "Object", "Thread", "Random", "currentTimeMillis", "nanoTime",
        };
        for (String b : banned) must(!Pattern.compile("\\b" + b + "\\b").matcher(code).find(), "it says " + b);
        must(!code.contains("->"), "an arrow");
        must(!code.contains("::"), "a method reference");
        must(!code.contains("Exact("), "a function that throws");
        must(!code.contains("\"\" +") && !code.contains("+ \"\""), "texts are joined by +");
        Matcher m = Pattern.compile("\\b([A-Z]\\w*)\\.(\\w+)\\(").matcher(code);
        Set<String> good = Set.of("Math.max", "Math.min", "Arrays.fill", "System.arraycopy", "Land.speedBehind",
            "Land.headingBehind", "Hands.coded", "WORDS.length", "WORDS.charAt");
        while (m.find()) must(good.contains(m.group(1) + "." + m.group(2)), "it calls " + m.group());
    }

    private static void imports(String source) {
        Matcher m = Pattern.compile("(?m)^import (.*);").matcher(source);
        while (m.find()) must(m.group(1).equals("java.util.Arrays"), "it imports " + m.group(1));
    }

    /** No method is longer than sixty lines: they begin with four or eight blanks and end alike. */
    private static void methods(String code) {
        String[] lines = code.split("\n", -1);
        int longest = 0;
        for (int i = 0; i < lines.length; i++) {
            Matcher m = Pattern.compile("^( {4}| {8})\\S.*\\) \\{$").matcher(lines[i]);
            if (!m.find()) continue;
            int k = i;
            while (k < lines.length && !lines[k].equals(m.group(1) + "}")) k++;
            longest = Math.max(longest, k - i + 1);
            must(k - i + 1 <= 60, "longer than sixty lines: " + lines[i]);
        }
        must(longest > 5, "no methods were found");
    }
}
