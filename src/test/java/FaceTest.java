import java.io.IOException;
import java.lang.reflect.Constructor;
import java.lang.reflect.Field;
import java.lang.reflect.Method;
import java.lang.reflect.Modifier;
import java.nio.file.Files;
import java.nio.file.Path;
import java.util.ArrayList;
import java.util.Arrays;
import java.util.List;
import java.util.Set;
import java.util.TreeSet;
import java.util.regex.Matcher;
import java.util.regex.Pattern;

/** The public face of the document, and the rules of LANGUAGE.md that a program can look at. */
public final class FaceTest {
    private static final String[] FACE = {
        "feed int int", "end int int", "text int", "fault int", "rule int int", "code int int int",
        "guard int int int", "within int int int", "apart int int int", "cover int int int",
        "run int int int int int", "value int int", "spent int", "runs int int int int",
        "wish int int int", "want int int int", "mean long int", "odds long int int", "live int int",
        "out int int", "sweep int", "merge int", "set int int int int", "turn int int int",
        "keep int int", "back int int", "sheet int int int int", "lay int int int int",
        "read int int int int int", "torn int", "count int int",
    };

    public static void main(String[] args) throws IOException {
        membersAreTheFace();
        classesInsideKeepToTheRules();
        sourceKeepsToTheRules(Files.readString(Path.of(args.length > 0 ? args[0] : "src/main/java/GuardedCode.java")));
        Check.finish();
    }

    private static void membersAreTheFace() throws IOException {
        Class<?> face = GuardedCode.class;
        Check.holds("public and final", Modifier.isPublic(face.getModifiers()) && Modifier.isFinal(face.getModifiers()));
        Set<String> seen = new TreeSet<>();
        Set<String> privates = new TreeSet<>();
        for (Method m : face.getDeclaredMethods()) {
            if (Modifier.isPrivate(m.getModifiers())) {
                privates.add(m.getName());
                continue;
            }
            StringBuilder shape = new StringBuilder(m.getName()).append(' ').append(m.getReturnType());
            for (Class<?> parameter : m.getParameterTypes()) {
                shape.append(' ').append(parameter);
            }
            Check.holds(m.getName() + " is public and no static", Modifier.isPublic(m.getModifiers()) && !Modifier.isStatic(m.getModifiers()));
            seen.add(shape.toString());
        }
        Set<String> due = new TreeSet<>(Arrays.asList(FACE));
        Check.holds("methods are " + due + ", seen " + seen, due.equals(seen));
        for (String method : FACE) {
            Check.holds("no private method is named as " + method, !privates.contains(method.split(" ")[0]));
        }
        Constructor<?>[] made = face.getDeclaredConstructors();
        Check.holds("one public constructor", made.length == 1 && Modifier.isPublic(made[0].getModifiers()) && made[0].getParameterCount() == 0);
        Set<String> constants = new TreeSet<>();
        for (Field f : face.getDeclaredFields()) {
            if (Modifier.isPrivate(f.getModifiers())) {
                continue;
            }
            Check.holds(f.getName() + " is a public int constant", Modifier.isPublic(f.getModifiers()) && Modifier.isStatic(f.getModifiers())
                && Modifier.isFinal(f.getModifiers()) && f.getType() == int.class);
            constants.add(f.getName());
        }
        Check.holds("constants", constants.equals(new TreeSet<>(List.of("BAD", "STATE", "FULL", "NONE"))));
        Check.due("BAD", GuardedCode.BAD, -1);
        Check.due("STATE", GuardedCode.STATE, -2);
        Check.due("FULL", GuardedCode.FULL, -3);
        Check.due("NONE", GuardedCode.NONE, -4);
    }

    private static void classesInsideKeepToTheRules() {
        Class<?>[] inside = GuardedCode.class.getDeclaredClasses();
        Check.holds("some twelve classes at the most", inside.length <= 11);
        List<Class<?>> all = new ArrayList<>(Arrays.asList(inside));
        all.add(GuardedCode.class);
        for (Class<?> one : all) {
            boolean outer = one == GuardedCode.class;
            Check.holds(one + " is static, not public", outer || Modifier.isStatic(one.getModifiers())
                && !Modifier.isPublic(one.getModifiers()) && !Modifier.isProtected(one.getModifiers()));
            int fields = 0;
            for (Field f : one.getDeclaredFields()) {
                if (Modifier.isStatic(f.getModifiers())) {
                    Check.holds(f + " is final", Modifier.isFinal(f.getModifiers()));
                } else {
                    fields++;
                }
            }
            Check.holds(one + " has some twenty fields at the most", fields <= 20);
            for (Method m : one.getDeclaredMethods()) {
                Check.holds(m + " has seven parameters at the most", m.getParameterCount() <= 7);
                Check.holds(m + " is not named as one of the face", outer || !Arrays.toString(FACE).matches(".*[\\[ ,]" + m.getName() + " (int|long).*"));
            }
        }
    }

    private static void sourceKeepsToTheRules(String source) {
        for (int at = 0; at < source.length(); at++) {
            Check.holds("a sign of the source is ASCII", source.charAt(at) < 128);
        }
        String bare = source.replaceAll("(?s)/\\*.*?\\*/", "").replaceAll("//[^\n]*", "");
        String[] ruledOut = {"throw", "throws", "try", "catch", "finally", "synchronized", "assert", "package", "transient",
            "volatile", "native", "strictfp", "hashCode", "toString", "Object", "Exact", "Random", "Thread", "System.currentTimeMillis",
            "System.nanoTime", "System.out", "System.err", "System.getenv", "String.format", "HashMap", "Optional", "Stream"};
        for (String word : ruledOut) {
            Check.holds("the source is without " + word, !Pattern.compile("\\b" + Pattern.quote(word) + "\\b").matcher(bare).find());
        }
        Check.holds("no lambda, no method reference", !bare.contains("->") && !bare.contains("::"));
        Check.holds("no endless loop", !Pattern.compile("while\\s*\\(\\s*true|for\\s*\\([^;]*;\\s*;").matcher(bare).find());
        Check.holds("no static initialiser", !Pattern.compile("static\\s*\\{").matcher(bare).find());
        Matcher imports = Pattern.compile("(?m)^import\\s+(.*);").matcher(bare);
        while (imports.find()) {
            Check.holds("import " + imports.group(1), List.of("java.util.Arrays", "java.util.ArrayList", "java.util.List").contains(imports.group(1)));
        }
        Matcher fills = Pattern.compile("Arrays\\.(\\w+)").matcher(bare);
        while (fills.find()) {
            Check.holds("Arrays." + fills.group(1), List.of("fill", "copyOf", "copyOfRange").contains(fills.group(1)));
        }
        methodsAreShort(source.split("\n"));
        callsMakeNothing(bare.split("\n"));
    }

    /** All is made with the object: in what a field begins with, or in the constructor. */
    private static void callsMakeNothing(String[] lines) {
        boolean inConstructor = false;
        for (String line : lines) {
            inConstructor = line.equals("    public GuardedCode() {") || inConstructor && !line.equals("    }");
            boolean makes = Pattern.compile("\\bnew\\b|\\.clone\\(|\\.copyOf").matcher(line).find();
            boolean field = line.matches(" {4}( {4})?(private )?final \\w+(\\[\\])? \\w+ = new .*;");
            Check.holds("no call makes an object: " + line.trim(), !makes || inConstructor || field);
        }
    }

    private static void methodsAreShort(String[] lines) {
        Pattern head = Pattern.compile("^( {4}| {8})[\\w<].*\\) \\{$");
        for (int at = 0; at < lines.length; at++) {
            Matcher m = head.matcher(lines[at]);
            if (!m.find()) {
                continue;
            }
            int end = at;
            while (end < lines.length && !lines[end].equals(m.group(1) + "}")) {
                end++;
            }
            Check.holds("some sixty lines at the most: " + lines[at].trim(), end - at + 1 <= 60);
        }
    }
}
