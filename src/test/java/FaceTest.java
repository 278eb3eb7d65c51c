import java.io.IOException;
import java.lang.reflect.Constructor;
import java.lang.reflect.Field;
import java.lang.reflect.Method;
import java.lang.reflect.Modifier;
import java.nio.file.Files;
import java.nio.file.Path;
import java.util.Arrays;
import java.util.List;
import java.util.Set;
import java.util.TreeSet;
import java.util.regex.Matcher;
import java.util.regex.Pattern;

/** The public face, and what of LANGUAGE.md shows in the compiled class and in the text of its file. */
public final class FaceTest {
    private static final Due DUE = new Due("FaceTest");

    private static final String[] FACE = {
        "int thing()", "int line(int, int, int, int)", "int alter(int, int, int)", "int close()", "int undo()",
        "int lineTold(int, int)", "int told()", "int tell(int, int)", "int tree()", "int way(int, int)",
        "int pairing(int)", "int offerTold(int, int)", "int choice(int, int)", "long cost(int, int, int, int)",
        "int best(int, int, int, int)", "long least(int, int, int, int)", "int window(int, int, int, int)",
        "int bends(int)", "long bend(int, int, int)", "long span(int, int, int)", "long top(int, int)",
        "long ratio(int, int)", "long regret(int, int, int)", "int calm(int)", "int why(int, int, int, int)",
        "int write(int)", "long row(int, int)", "int forge(int, int, int)", "int check(int)",
        "int act(int, int, int)", "int trace(int)", "int count(int)", "int sheet(int, int, int)",
        "int cell(int, int, int)", "int lay(int, int, int)", "int copy(int, int, int, int, int)",
        "int taken(int, int)"};

    private static String told(Method method) {
        StringBuilder text = new StringBuilder(method.getReturnType().getName());
        text.append(' ').append(method.getName()).append('(');
        for (Class<?> type : method.getParameterTypes()) {
            text.append(text.charAt(text.length() - 1) == '(' ? "" : ", ").append(type.getName());
        }
        return text.append(')').toString();
    }

    private static void methods() {
        Set<String> due = new TreeSet<>(Arrays.asList(FACE));
        Set<String> publicNames = new TreeSet<>();
        Set<String> found = new TreeSet<>();
        for (Method method : PriceBench.class.getDeclaredMethods()) {
            if (!Modifier.isPrivate(method.getModifiers())) {
                DUE.is("modifiers of " + method, method.getModifiers(), Modifier.PUBLIC);
                found.add(told(method));
                publicNames.add(method.getName());
            }
        }
        DUE.holds("the methods are " + due + ", not " + found, due.equals(found));
        DUE.is("how many names", publicNames.size(), FACE.length);
        for (Class<?> type : PriceBench.class.getDeclaredClasses()) {
            DUE.holds(type + " is static", Modifier.isStatic(type.getModifiers()));
            DUE.holds(type + " is not public", !Modifier.isPublic(type.getModifiers()));
            for (Method method : type.getDeclaredMethods()) {
                DUE.holds(method + " bears no public name", !publicNames.contains(method.getName()));
            }
        }
        for (Method method : PriceBench.class.getDeclaredMethods()) {
            if (Modifier.isPrivate(method.getModifiers())) {
                DUE.holds(method + " bears no public name", !publicNames.contains(method.getName()));
            }
        }
    }

    private static void members() {
        DUE.is("modifiers of the class", PriceBench.class.getModifiers(), Modifier.PUBLIC | Modifier.FINAL);
        Constructor<?>[] constructors = PriceBench.class.getDeclaredConstructors();
        DUE.is("how many constructors", constructors.length, 1);
        DUE.is("its modifiers", constructors[0].getModifiers(), Modifier.PUBLIC);
        DUE.is("its arguments", constructors[0].getParameterCount(), 0);
        Set<String> constants = new TreeSet<>();
        for (Field field : PriceBench.class.getDeclaredFields()) {
            if (!Modifier.isPrivate(field.getModifiers())) {
                constants.add(field.getType() + " " + field.getName() + " " + field.getModifiers());
            }
        }
        int modifiers = Modifier.PUBLIC | Modifier.STATIC | Modifier.FINAL;
        Set<String> due = new TreeSet<>();
        for (String name : new String[] {"int NONE ", "int BAD ", "int STATE ", "int FULL ", "long NO "}) {
            due.add(name + modifiers);
        }
        DUE.holds("the constants are " + due + ", not " + constants, due.equals(constants));
        DUE.is("NONE", PriceBench.NONE, -1);
        DUE.is("BAD", PriceBench.BAD, -2);
        DUE.is("STATE", PriceBench.STATE, -3);
        DUE.is("FULL", PriceBench.FULL, -4);
        DUE.is("NO", PriceBench.NO, -4611686018427387904L);
    }

    private static void sizes() {
        DUE.holds("there are at most twelve classes", PriceBench.class.getDeclaredClasses().length <= 11);
        Set<Class<?>> types = new java.util.HashSet<>(Arrays.asList(PriceBench.class.getDeclaredClasses()));
        types.add(PriceBench.class);
        for (Class<?> type : types) {
            long fields = Arrays.stream(type.getDeclaredFields())
                    .filter(field -> !Modifier.isStatic(field.getModifiers())).count();
            DUE.holds(type + " has at most twenty fields", fields <= 20);
            for (Field field : type.getDeclaredFields()) {
                DUE.holds(field + " is final or not static", !Modifier.isStatic(field.getModifiers())
                        || Modifier.isFinal(field.getModifiers()));
            }
            for (Method method : type.getDeclaredMethods()) {
                DUE.holds(method + " takes at most seven", method.getParameterCount() <= 7);
            }
        }
    }

    private static void text(Path file) throws IOException {
        String text = Files.readString(file);
        String code = Pattern.compile("/\\*.*?\\*/|//[^\\n]*", Pattern.DOTALL).matcher(text).replaceAll("");
        String[] words = {"throw", "throws", "try", "catch", "synchronized", "assert", "record", "Object", "package",
            "equals", "hashCode", "toString", "float", "double", "volatile", "transient", "native", "[a-z]+Exact"};
        for (String word : words) {
            DUE.holds("the code has no " + word, !Pattern.compile("\\b" + word + "\\b").matcher(code).find());
        }
        DUE.holds("the code has no lambda and no method reference", !code.contains("->") && !code.contains("::"));
        DUE.holds("no text is joined by +", !code.contains("\""));
        DUE.holds("it is written in signs 1 to 127", text.chars().allMatch(c -> c > 0 && c < 128));
        long imports = code.lines().filter(line -> line.startsWith("import ")).count();
        DUE.is("imports", imports, code.contains("import java.util.Arrays;") ? 1 : 0);
    }

    /** Rule 4: of the library's static functions only these are called, and nothing is made but own classes and arrays. */
    private static void library(Path file) throws IOException {
        String text = Files.readString(file);
        String code = Pattern.compile("/\\*.*?\\*/|//[^\\n]*", Pattern.DOTALL).matcher(text).replaceAll("");
        Set<String> own = new TreeSet<>(List.of("PriceBench"));
        for (Class<?> type : PriceBench.class.getDeclaredClasses()) {
            own.add(type.getSimpleName());
        }
        Set<String> allowed = Set.of("Arrays.copyOf", "Arrays.copyOfRange", "Arrays.fill", "System.arraycopy",
                "Math.abs", "Math.min", "Math.max", "Math.floorDiv", "Math.floorMod", "Integer.bitCount", "Integer.compare",
                "Long.compare");
        Matcher calls = Pattern.compile("\\b([A-Z]\\w*[a-z]\\w*)\\.(\\w+)\\(").matcher(code);
        while (calls.find()) {
            String call = calls.group(1) + "." + calls.group(2);
            DUE.holds(call + " may be called", own.contains(calls.group(1)) || allowed.contains(call));
        }
        Matcher made = Pattern.compile("\\bnew (\\w+)").matcher(code);
        while (made.find()) {
            DUE.holds(made.group(1) + " may be made", own.contains(made.group(1)) || made.group(1).matches("int|long"));
        }
    }

    private static void methodLengths(Path file) throws IOException {
        int began = 0;
        int number = 0;
        for (String line : Files.readAllLines(file)) {
            number++;
            if (line.matches(" {4,8}[a-zA-Z].*\\) \\{")) {
                began = number;
            }
            if (line.matches(" {4,8}}") && began > 0) {
                DUE.holds("the method at line " + began + " has at most sixty lines", number - began < 60);
                began = 0;
            }
        }
    }

    public static void main(String[] args) throws IOException {
        Path file = Path.of("src/main/java/PriceBench.java");
        methods();
        members();
        sizes();
        text(file);
        library(file);
        methodLengths(file);
        DUE.end();
    }
}
