import java.io.IOException;
import java.lang.reflect.Constructor;
import java.lang.reflect.Field;
import java.lang.reflect.Method;
import java.lang.reflect.Modifier;
import java.nio.file.Files;
import java.nio.file.Path;
import java.util.ArrayList;
import java.util.List;
import java.util.Set;
import java.util.TreeSet;
import java.util.regex.Matcher;
import java.util.regex.Pattern;

/** What of LANGUAGE.md can be seen in the class and in its text. */
public final class LanguageTests {
    private static final String[] FACE = {
        "int man(int)", "int ofMan(int,int)", "int tellMan(int,int,int)", "int become(int,int)", "int as(int,int)", "int fine(int)",
        "int feed(long,int)", "int text(int)", "int law(int,int,int,int,int)",
        "int open()", "int close()", "int bells(int)", "int loose(int)",
        "int possible(int)", "int thinks(int,int)", "int then(int,int)", "int thenPaid(int,int)", "int when(int)", "int silence(int,int)",
        "int trick(int,int)", "int longest()", "int signal(int,int)", "int bestSignal(int,int)", "int look(int)", "long odds(int,int)",
        "int seed(int)", "int voice(int,int,int)", "int trace(int)", "int sheet(int,int,int)", "int put(int,int,int)",
        "int move(int,int,int,int,int)", "int worlds(int)", "int image()", "int restore()", "int tell(int)", "int check()",
        "int count(int)", "int told(int)"};
    private static final Set<String> STATIC_TYPES = Set.of("int", "long", "boolean", "char", "String", "int[]", "long[]", "char[]", "byte[]");

    /** What of the library that rule 4 leaves the class uses; a call that is new here is looked up there first. */
    private static final Set<String> LIBRARY = Set.of("Math.max", "Math.min", "Integer.bitCount", "Long.bitCount", "System.arraycopy");

    private static int wrong = 0;

    private static void must(boolean holds, String what) {
        if (!holds) {
            wrong++;
            System.out.println(what);
        }
    }

    private static String shown(Method m) {
        List<String> parts = new ArrayList<>();
        for (Class<?> c : m.getParameterTypes()) parts.add(c.getSimpleName());
        return m.getReturnType().getSimpleName() + " " + m.getName() + "(" + String.join(",", parts) + ")";
    }

    private static void face() {
        Set<String> due = new TreeSet<>(List.of(FACE));
        Set<String> names = new TreeSet<>();
        Set<String> got = new TreeSet<>();
        for (Method m : OtherHat.class.getDeclaredMethods()) {
            if (Modifier.isPublic(m.getModifiers())) {
                got.add(shown(m));
                names.add(m.getName());
            } else {
                must(Modifier.isPrivate(m.getModifiers()), "rule 1: " + m + " is neither public nor private");
            }
        }
        must(got.equals(due), "rule 1: the face is " + got);
        for (Field f : OtherHat.class.getDeclaredFields()) must(Modifier.isPrivate(f.getModifiers()), "rule 1: " + f);
        Constructor<?>[] made = OtherHat.class.getDeclaredConstructors();
        must(made.length == 1 && made[0].getParameterCount() == 0 && Modifier.isPublic(made[0].getModifiers()), "rule 1: constructors");
        must(Modifier.isFinal(OtherHat.class.getModifiers()), "rule 1: the class is not final");
        for (Class<?> c : classes()) {
            for (Method m : c.getDeclaredMethods()) {
                boolean shadows = !Modifier.isPublic(m.getModifiers()) && names.contains(m.getName());
                must(!shadows, "rule 1: " + m + " bears a public one's name");
                must(m.getParameterCount() <= 7, "rule 11: " + m);
            }
        }
    }

    private static List<Class<?>> classes() {
        List<Class<?>> all = new ArrayList<>(List.of(OtherHat.class.getDeclaredClasses()));
        all.add(OtherHat.class);
        return all;
    }

    private static void fields() {
        must(classes().size() <= 12, "rule 11: " + classes().size() + " classes");
        for (Class<?> c : classes()) {
            must(c == OtherHat.class || Modifier.isStatic(c.getModifiers()), "rule 2: " + c);
            int many = 0;
            for (Field f : c.getDeclaredFields()) {
                if (Modifier.isStatic(f.getModifiers())) {
                    must(Modifier.isFinal(f.getModifiers()) && STATIC_TYPES.contains(f.getType().getSimpleName()), "rule 5: " + f);
                } else {
                    many++;
                }
            }
            must(many <= 20, "rule 11: " + c + " has " + many + " fields");
        }
    }

    private static void words(String code) {
        for (String word : new String[] {"throw", "throws", "try", "catch", "finally", "synchronized", "assert", "import", "package", "volatile", "native"}) {
            must(!Pattern.compile("\\b" + word + "\\b").matcher(code).find(), "rule 4 or 6: " + word);
        }
        must(!code.contains("->") && !code.contains("::"), "rule 2: a lambda or a method reference");
        must(!Pattern.compile("static\\s*\\{").matcher(code).find(), "rule 5: a static block");
        must(!Pattern.compile("\\w+Exact\\b").matcher(code).find(), "rule 4: Exact");
    }

    private static void library(String code) {
        Matcher called = Pattern.compile("\\b([A-Z]\\w*)\\.(\\w+)\\(").matcher(code);
        while (called.find()) must(LIBRARY.contains(called.group(1) + "." + called.group(2)), "rule 4: " + called.group());
        Matcher made = Pattern.compile("\\bnew (\\w+)").matcher(code);
        Set<String> own = new TreeSet<>(List.of("int"));
        for (Class<?> c : classes()) own.add(c.getSimpleName());
        while (made.find()) must(own.contains(made.group(1)), "rule 4: " + made.group());
    }

    /** A loop's end is seen from its own line: each has a counter and a bound. */
    private static void loops(String code) {
        must(!Pattern.compile("\\b(while|do)\\b").matcher(code).find(), "rule 9: a loop without a counter");
        Matcher loop = Pattern.compile("\\bfor \\(([^\n]*)\\) \\{").matcher(code);
        while (loop.find()) {
            must(loop.group(1).matches("int (\\w+) = \\w+; \\1 <=? .*; \\1\\+\\+"), "rule 9: for (" + loop.group(1) + ")");
        }
    }

    /** The bodies of methods are indented once more than the line that begins them. */
    private static void methodsAreShort(List<String> lines) {
        Pattern head = Pattern.compile("^( +)(public|private)[^;={]*\\(.*\\{$");
        for (int i = 0; i < lines.size(); i++) {
            Matcher m = head.matcher(lines.get(i));
            if (!m.matches()) continue;
            int end = i;
            boolean isConstructor = lines.get(i).matches(".*(public|private) [A-Z]\\w*\\(.*");
            while (end < lines.size() && !lines.get(end).equals(m.group(1) + "}")) {
                boolean makes = Pattern.compile("\\bnew\\b").matcher(lines.get(end)).find();
                must(!makes || isConstructor, "room: an object is made by a call, in line " + (end + 1));
                end++;
            }
            must(end - i <= 60, "rule 11: a method of " + (end - i) + " lines from line " + (i + 1) + " on");
        }
    }

    public static void main(String[] args) throws IOException {
        String code = Files.readString(Path.of("src/main/java/OtherHat.java"));
        for (int i = 0; i < code.length(); i++) must(code.charAt(i) < 128, "a sign above 127");
        String bare = code.replaceAll("(?s)/\\*.*?\\*/", "").replaceAll("//[^\n]*", "").replaceAll("\"[^\"\n]*\"", "\"\"");
        face();
        fields();
        words(bare);
        library(bare);
        loops(bare);
        methodsAreShort(List.of(bare.split("\n")));
        System.out.println(wrong == 0 ? "the language is kept to" : wrong + " things are outside it");
        if (wrong != 0) System.exit(1);
    }
}
