import java.lang.reflect.Constructor;
import java.lang.reflect.Field;
import java.lang.reflect.Method;
import java.lang.reflect.Modifier;
import java.nio.file.Files;
import java.nio.file.Path;
import java.util.Set;
import java.util.TreeSet;
import java.util.regex.Matcher;
import java.util.regex.Pattern;

/** The face of the class, and those rules of LANGUAGE.md that can be looked at from outside. */
public final class LanguageTest {
    private static final String FACE = """
        int singer(int,int,int,int)
        int of(int,int)
        int part(int,int)
        int set(int,int,int)
        int away(int,boolean)
        int sacks(int,int)
        int teach(int,int,int)
        int row(int,int,int)
        int feed(int)
        int village()
        int told(int)
        int pass(int)
        int on(int,int)
        int choir(int,int)
        int see(int,int,int)
        int can(int,int)
        long odds(int,int,int)
        long mean(int,int)
        int plan(int,int)
        int ends(int)
        int book(int,int)
        int looked()
        int judge(int,int)
        int image()
        int undo()
        int act(int,int,int)
        int trace(int)
        int taken(int,int)
        int count(int)
        int tape(int,int,int)
        int item(int,int,long)
        long read(int,int)
        int shift(int,int,int,int,int)
        """;
    private static final Due due = new Due();

    public static void main(String[] args) throws Exception {
        face();
        Set<String> names = new TreeSet<>();
        for (String line : FACE.split("\n")) {
            names.add(line.substring(line.indexOf(' ') + 1, line.indexOf('(')));
        }
        due.holds("at most twelve classes", SungHarvest.class.getDeclaredClasses().length < 12);
        classRules(SungHarvest.class, names);
        for (Class<?> inside : SungHarvest.class.getDeclaredClasses()) {
            int how = inside.getModifiers();
            due.holds("rule 2: static " + inside, Modifier.isStatic(how));
            due.holds("rule 1: not public " + inside, !Modifier.isPublic(how) && !Modifier.isProtected(how));
            classRules(inside, names);
        }
        words(Files.readString(Path.of("src/main/java/SungHarvest.java")));
        due.end("the language");
    }

    private static void face() {
        int how = SungHarvest.class.getModifiers();
        due.holds("rule 1: public and final", Modifier.isPublic(how) && Modifier.isFinal(how));
        Set<String> wanted = new TreeSet<>(Set.of(FACE.split("\n")));
        Set<String> found = new TreeSet<>();
        for (Method m : SungHarvest.class.getDeclaredMethods()) {
            if (!Modifier.isPrivate(m.getModifiers()) && !m.isSynthetic()) {
                StringBuilder told = new StringBuilder(m.getReturnType() + " " + m.getName() + "(");
                for (Class<?> type : m.getParameterTypes()) {
                    told.append(told.charAt(told.length() - 1) == '(' ? "" : ",").append(type);
                }
                found.add(told.append(")").toString());
                due.holds("public, not static: " + m, m.getModifiers() == Modifier.PUBLIC);
            }
        }
        due.holds("the face is " + found, found.equals(wanted));
        Constructor<?>[] made = SungHarvest.class.getDeclaredConstructors();
        due.holds("one public constructor", made.length == 1 && Modifier.isPublic(made[0].getModifiers()));
        Set<String> constants = new TreeSet<>();
        for (Field f : SungHarvest.class.getDeclaredFields()) {
            if (!Modifier.isPrivate(f.getModifiers())) {
                constants.add(f.getType() + " " + f.getName());
            }
        }
        due.holds("the constants are " + constants,
            constants.equals(Set.of("int NONE", "int BAD", "int STATE", "int FULL", "long NO")));
    }

    private static void classRules(Class<?> c, Set<String> faceNames) {
        int fields = 0;
        for (Field f : c.getDeclaredFields()) {
            if (Modifier.isStatic(f.getModifiers())) {
                due.holds("rule 5: final " + f, Modifier.isFinal(f.getModifiers()));
            } else {
                fields++;
            }
        }
        due.holds("rule 11: fields of " + c, fields <= 20);
        for (Method m : c.getDeclaredMethods()) {
            due.holds("rule 11: parameters of " + m, m.getParameterCount() <= 7);
            due.holds("rule 2: no lambda, nothing made by the compiler: " + m, !m.isSynthetic());
            due.holds("rule 1: no name of the face: " + m, c == SungHarvest.class && Modifier.isPublic(m.getModifiers())
                || !faceNames.contains(m.getName()));
        }
    }

    private static void words(String source) {
        due.holds("signs 1 to 127", source.chars().allMatch(c -> c >= 1 && c <= 127));
        String code = source.replaceAll("(?s)/\\*.*?\\*/", "").replaceAll("//[^\n]*", "")
            .replaceAll("\"[^\"]*\"", "\"\"").replaceAll("'[^']*'", "' '");
        String refused = "\\b(throw|throws|try|catch|finally|synchronized|assert|abstract|package|protected|native|"
            + "transient|volatile|goto|var|yield|hashCode|toString|\\w+Exact|Thread|Random|Object|float|double)\\b|->|::|@|\"\"\"";
        Matcher m = Pattern.compile(refused).matcher(code);
        due.holds("rules 2, 6 and 13: refused words", !m.find());
        due.holds("rule 5: no static block", !Pattern.compile("static\\s*\\{").matcher(code).find());
        due.holds("rule 10: no texts joined by +", !Pattern.compile("\"\\s*\\+|\\+\\s*\"").matcher(code).find());
        Matcher imports = Pattern.compile("import ([\\w.*]+);").matcher(code);
        while (imports.find()) {
            due.holds("rule 4: import " + imports.group(1), imports.group(1).equals("java.util.Arrays"));
        }
        Matcher library = Pattern.compile("\\b(System|Arrays|Math|Integer|Long|Character)\\.(\\w+)").matcher(code);
        Set<String> listed = Set.of("System.arraycopy", "Arrays.copyOf", "Arrays.fill", "Math.max", "Math.min",
            "Integer.bitCount", "Integer.compare", "Long.MIN_VALUE");
        while (library.find()) {
            due.holds("rule 4: " + library.group(), listed.contains(library.group()));
        }
        methodLengths(code);
    }

    private static void methodLengths(String code) {
        String[] lines = code.split("\n");
        int begun = 0;
        for (int n = 0; n < lines.length; n++) {
            if (lines[n].matches("\\s+(public |private |static |final )*[\\w\\[\\]]+ \\w+\\([^;]*\\) \\{")) {
                begun = n;
            }
            if (lines[n].matches("( {4}| {8})\\}")) {
                due.holds("rule 11: the method at line " + begun, n - begun < 60 || lines[n].equals("    }"));
            }
        }
    }
}
