import java.lang.reflect.Constructor;
import java.lang.reflect.Field;
import java.lang.reflect.Method;
import java.lang.reflect.Modifier;
import java.nio.file.Files;
import java.nio.file.Path;
import java.util.Set;
import java.util.TreeSet;
import java.util.regex.Matcher;
import java.util.regex.Pattern;

/** What can be told of LANGUAGE.md's rules from the class and its text; run from the project's root. */
public final class LanguageTest {
    private static final String FACE = """
        type(int,int)int wipe(int)int fault(int)int motor(int)int ahead(int,int)int see(int,int)int read(int)int
        back()int left()int odds(int,int)long trouble(int,int)long state(int,int)int sign(int,int)int
        chance(int,int,int)long parts(int)int sure(int,int)long best(int,int)long habit(int,int)long has(int)int
        work(int)long drowned(int,int)int morning(int,int,int)int says(int,int,int,int,int)int
        misses(int,int,int)int fits(int)int sheet(int,int,int)int lose(int)int put(int,int,int,int)int
        get(int,int,int)int copy(int,int,int,int,int)int write(int,int)int count(int)int digest()long""";

    public static void main(String[] args) throws Exception {
        String source = Files.readString(Path.of("src/main/java/ColdMotor.java"));
        face();
        members(ColdMotor.class);
        for (Class<?> inside : ColdMotor.class.getDeclaredClasses()) {
            int how = inside.getModifiers();
            Due.isTrue("2: static " + inside, Modifier.isStatic(how));
            Due.isTrue("1: not public " + inside, !Modifier.isPublic(how) && !Modifier.isProtected(how));
            members(inside);
        }
        Due.isTrue("11: classes", ColdMotor.class.getDeclaredClasses().length < 12);
        words(strip(source));
        library(strip(source));
        lengths(strip(source));
        Due.end("LanguageTest");
    }

    private static void face() {
        Set<String> want = new TreeSet<>(Set.of(FACE.trim().split("\\s+")));
        Set<String> got = new TreeSet<>();
        Set<String> names = new TreeSet<>();
        for (Method m : ColdMotor.class.getDeclaredMethods()) {
            if (Modifier.isPublic(m.getModifiers())) {
                got.add(signature(m));
                names.add(m.getName());
            }
        }
        Due.isTrue("1: the face is " + got, got.equals(want));
        for (Class<?> c : withInside()) {
            for (Method m : c.getDeclaredMethods()) {
                boolean own = c == ColdMotor.class && Modifier.isPublic(m.getModifiers());
                Due.isTrue("1: name of " + m, own || !names.contains(m.getName()));
            }
        }
        Constructor<?>[] made = ColdMotor.class.getDeclaredConstructors();
        Due.isTrue("1: constructor", made.length == 1 && Modifier.isPublic(made[0].getModifiers())
            && made[0].getParameterCount() == 0);
        Due.isTrue("1: public and final", Modifier.isPublic(ColdMotor.class.getModifiers())
            && Modifier.isFinal(ColdMotor.class.getModifiers()));
    }

    private static Class<?>[] withInside() {
        Class<?>[] inside = ColdMotor.class.getDeclaredClasses();
        Class<?>[] all = java.util.Arrays.copyOf(inside, inside.length + 1);
        all[inside.length] = ColdMotor.class;
        return all;
    }

    private static String signature(Method m) {
        StringBuilder made = new StringBuilder(m.getName()).append('(');
        for (Class<?> type : m.getParameterTypes()) {
            made.append(made.charAt(made.length() - 1) == '(' ? "" : ",").append(type.getName());
        }
        return made.append(')').append(m.getReturnType().getName()).toString();
    }

    private static void members(Class<?> c) {
        int fields = 0;
        Set<String> constants = Set.of("NONE", "BAD", "NOT", "FULL");
        for (Field f : c.getDeclaredFields()) {
            int how = f.getModifiers();
            fields += Modifier.isStatic(how) ? 0 : 1;
            Due.isTrue("5: final " + f, !Modifier.isStatic(how) || Modifier.isFinal(how));
            boolean told = c == ColdMotor.class && constants.contains(f.getName());
            Due.isTrue("1: who sees " + f, c != ColdMotor.class || Modifier.isPublic(how) == told);
            Due.isTrue("1: who sees " + f, c != ColdMotor.class || told || Modifier.isPrivate(how));
        }
        Due.isTrue("11: fields of " + c, fields <= 20);
        for (Method m : c.getDeclaredMethods()) {
            Due.isTrue("11: parameters of " + m, m.getParameterCount() <= 7);
            boolean seen = Modifier.isPublic(m.getModifiers()) || Modifier.isPrivate(m.getModifiers());
            Due.isTrue("1: who sees " + m, c != ColdMotor.class || seen);
        }
    }

    /** The text without comments, and with empty constants of text and sign. */
    private static String strip(String source) {
        String bare = source.replaceAll("(?s)/\\*.*?\\*/", "").replaceAll("//[^\n]*", "");
        return bare.replaceAll("\"(\\\\.|[^\"\\\\])*\"", "\"\"").replaceAll("'(\\\\.|[^'\\\\])'", "0");
    }

    private static void words(String bare) {
        String[] not = {"\\bthrow", "\\btry\\b", "\\bcatch\\b", "\\bsynchronized\\b", "\\bassert\\b", "->", "::",
            "\\bpackage\\b", "\\bprotected\\b", "\\bvolatile\\b", "\\bnative\\b", "\\bvar\\b", "Exact\\b",
            "\\bThread\\b", "\\bObject\\b", "\\bhashCode\\b", "\\btoString\\b", "\\bequals\\b", "static\\s*\\{",
            "System\\.(?!arraycopy\\b)", "Arrays\\.(?!(copyOf|copyOfRange|fill)\\b)", "\\bdouble\\b", "\\bfloat\\b",
            "\\bwhile\\s*\\(\\s*true", "for\\s*\\(\\s*;"};
        for (String word : not) {
            Matcher found = Pattern.compile(word).matcher(bare);
            Due.isTrue("no " + word, !found.find());
        }
        Matcher imports = Pattern.compile("import ([\\w.]+);").matcher(bare);
        while (imports.find()) {
            Due.isTrue("4: import " + imports.group(1),
                Set.of("java.util.Arrays", "java.util.ArrayList", "java.util.List").contains(imports.group(1)));
        }
        for (int i = 0; i < bare.length(); i++) {
            if (bare.charAt(i) > 126) {
                Due.isTrue("a plain sign at " + i, false);
            }
        }
    }

    /** Of the library's classes only what rule 4 names: their functions, none of their constants. */
    private static void library(String bare) {
        Set<String> told = Set.of("Integer.bitCount", "Math.max", "Math.min", "Math.abs", "Arrays.fill",
            "System.arraycopy");
        Matcher used = Pattern.compile("\\b(?:Integer|Long|Math|Arrays|System|Short|Byte|Character)\\.\\w+")
            .matcher(bare.replaceAll("(?m)^import .*$", ""));
        int uses = 0;
        while (used.find()) {
            uses++;
            Due.isTrue("4: " + used.group(), told.contains(used.group()));
        }
        Due.isTrue("4: uses of the library were found", uses > 10);
    }

    private static void lengths(String bare) {
        Matcher head = Pattern.compile("(?m)^( +)[\\w\\[\\] <>]*\\w+\\([^;{}]*\\) \\{$").matcher(bare);
        int methods = 0;
        while (head.find()) {
            if (head.group().matches("\\s*(for|if|while|switch|} else if) ?\\(.*")) {
                continue;
            }
            methods++;
            int end = bare.indexOf("\n" + head.group(1) + "}", head.end());
            long lines = bare.substring(head.start(), end).lines().count();
            Due.isTrue("11: " + lines + " lines of " + head.group().trim(), lines <= 60);
        }
        Due.isTrue("11: methods were found", methods > 60);
    }
}
