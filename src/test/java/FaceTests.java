import java.lang.reflect.Field;
import java.lang.reflect.Member;
import java.lang.reflect.Method;
import java.lang.reflect.Modifier;
import java.nio.charset.StandardCharsets;
import java.nio.file.Files;
import java.nio.file.Path;
import java.util.ArrayList;
import java.util.HashMap;
import java.util.HashSet;
import java.util.List;
import java.util.Map;
import java.util.Set;
import java.util.regex.Matcher;
import java.util.regex.Pattern;

/** The class's face, and those rules of LANGUAGE.md that a look at the class and its source can tell. */
public final class FaceTests {
    private static final Checks c = new Checks("FaceTests");
    private static final String[] FACE = {"int type(long,int)", "int clear()", "int read()", "int trade(int,int)", "int skill(int,int)",
        "int person(int,int)", "int wheel(int)", "int tune(int,int)", "int go(int)", "int help(int,int)", "int ill(int)", "int oil(int)",
        "int favours(int,int)", "int now(int)", "int anew()", "int lacking(int,int)", "int best(int,int)", "int taught(int,int)",
        "int standsIn(int,int)", "int madeBy(int,int,int)", "int again()", "int rate(int,int)", "int keep(int)", "int back(int)",
        "int count(int)", "long trace()"};
    private static final String[] NEVER = {"throw", "throws", "try", "catch", "finally", "synchronized", "assert", "native", "volatile",
        "goto", "float", "double", "Object", "Exception", "Thread", "System.out", "System.err", "System.exit", "->", "::", "package", "Exact",
        "hashCode", "toString", "yield", "var", "MAX_VALUE", "MIN_VALUE"};

    public static void main(String[] args) throws Exception {
        face();
        constants();
        nested();
        source(Files.readString(Path.of(args[0]), StandardCharsets.UTF_8));
        c.close();
    }

    private static boolean isPrivate(Member m) {
        return Modifier.isPrivate(m.getModifiers()) || m.isSynthetic();
    }

    private static String signOf(Method m) {
        List<String> types = new ArrayList<>();
        for (Class<?> type : m.getParameterTypes()) types.add(type.getSimpleName());
        return m.getReturnType().getSimpleName() + " " + m.getName() + "(" + String.join(",", types) + ")";
    }

    private static void face() {
        Set<String> want = new HashSet<>(List.of(FACE));
        Set<String> names = new HashSet<>();
        for (String sign : FACE) names.add(sign.substring(sign.indexOf(' ') + 1, sign.indexOf('(')));
        for (Method m : TradeWheel.class.getDeclaredMethods()) {
            if (isPrivate(m)) {
                c.holds("rule 1: private " + m.getName() + " has a name of its own", !names.contains(m.getName()));
                continue;
            }
            c.holds("rule 1: " + signOf(m) + " is of the face", want.remove(signOf(m)) && m.getModifiers() == Modifier.PUBLIC);
        }
        c.due("rule 1: missing " + want, want.size(), 0);
        c.due("rule 1: constructors", TradeWheel.class.getDeclaredConstructors().length, 1);
        c.due("rule 1: the constructor is public", TradeWheel.class.getConstructors().length, 1);
        c.due("rule 1: the class is public and final", TradeWheel.class.getModifiers(), Modifier.PUBLIC | Modifier.FINAL);
    }

    private static void constants() throws IllegalAccessException {
        Map<String, Integer> want = new HashMap<>(Map.of("BAD", -1, "STATE", -2, "FULL", -3, "NONE", -9, "NO", -1000000));
        for (Field f : TradeWheel.class.getDeclaredFields()) {
            if (isPrivate(f)) continue;
            Integer value = want.remove(f.getName());
            boolean constant = f.getModifiers() == (Modifier.PUBLIC | Modifier.STATIC | Modifier.FINAL);
            c.holds("rule 1: " + f.getName(), value != null && constant && f.getInt(null) == value);
        }
        c.due("rule 1: missing " + want, want.size(), 0);
    }

    private static void nested() {
        Class<?>[] all = TradeWheel.class.getDeclaredClasses();
        c.holds("rule 11: some twelve classes", all.length < 12);
        for (Class<?> one : all) {
            c.holds("rule 2: " + one + " is static", Modifier.isStatic(one.getModifiers()));
            c.holds("rule 1: " + one + " is not shown", (one.getModifiers() & (Modifier.PUBLIC | Modifier.PROTECTED)) == 0);
            fields(one);
        }
        fields(TradeWheel.class);
    }

    private static void fields(Class<?> one) {
        int changing = 0;
        for (Field f : one.getDeclaredFields()) {
            if (Modifier.isStatic(f.getModifiers())) c.holds("rule 5: " + f + " is final", Modifier.isFinal(f.getModifiers()));
            else changing++;
        }
        c.holds("rule 11: fields of " + one, changing <= 20);
        for (Method m : one.getDeclaredMethods()) c.holds("rule 11: parameters of " + m, m.getParameterCount() <= 7);
    }

    private static void source(String text) {
        String code = text.replaceAll("(?s)/\\*.*?\\*/", "").replaceAll("//[^\\n]*", "").replaceAll("\"[^\"\\n]*\"", "\"\"");
        for (String word : NEVER) {
            boolean plain = Character.isLetter(word.charAt(0));
            Matcher m = Pattern.compile(plain ? "\\b" + Pattern.quote(word) + "\\b" : Pattern.quote(word)).matcher(code);
            c.holds("rules 3, 4, 6, 13: no " + word, !m.find());
        }
        c.holds("rule 4: no Math...Exact", !code.contains("Exact("));
        for (int i = 0; i < text.length(); i++) {
            char sign = text.charAt(i);
            if (sign > 126 || sign < 32 && sign != '\n') c.due("sign " + i + " of the source", sign, 32);
        }
        c.holds("no import", !code.contains("import"));
        methods(code);
    }

    /** Blocks that open at the depth of methods stay short. */
    private static void methods(String code) {
        int depth = 0, from = 0, line = 0;
        for (String row : code.split("\n")) {
            line++;
            String bare = row.replaceAll("'.'", "");
            int before = depth;
            for (char sign : bare.toCharArray()) depth += sign == '{' ? 1 : sign == '}' ? -1 : 0;
            boolean isMethod = row.matches(" {4,8}[^ ].*\\) \\{");
            if (isMethod && depth > before) from = line;
            if (row.matches(" {4}\\}| {8}\\}") && from > 0) c.holds("rule 11: lines of the method that ends at " + line, line - from <= 60);
        }
        c.due("braces", depth, 0);
    }
}
