import java.lang.reflect.Method;
import java.lang.reflect.Modifier;
import java.nio.file.Files;
import java.nio.file.Path;

/** What README.md says of the class is so: its example answers what it tells, and no call and no refusal is left out. */
public final class ReadmeTest {
    private static final Due due = new Due();
    private static String readme;

    public static void main(String[] args) throws Exception {
        readme = Files.readString(Path.of("README.md"));
        example();
        names();
        due.end("the README");
    }

    private static void example() {
        SungHarvest x = new SungHarvest();
        int bass = x.singer(1, 5, 96, 90);
        told("int bass = x.singer(1, 5, 96, 90);", bass);
        int fed = 0;
        for (char c : "hard 9 d<3;anew 30".toCharArray()) {
            fed = x.feed(c);
        }
        due.holds("the README feeds the same text", readme.contains("\"hard 9 d<3;anew 30\".toCharArray()"));
        due.holds("the README tells of " + fed + " bytes", readme.contains(".. " + fed + ": how many bytes"));
        told("int village = x.village();", x.village());
        told("int strain = x.of(bass, 6);", x.of(bass, 6));
        told("int day = x.pass(3);", x.pass(3));
        told("int memory = x.of(bass, 3);", x.of(bass, 3));
        told("int lost = x.part(5, 2);", x.part(5, 2));
        told("long away = x.odds(5, 2, 0);", x.odds(5, 2, 0));
    }

    /** The README has this line, and its comment begins with what the class answers. */
    private static void told(String line, long answer) {
        int at = readme.indexOf(line);
        due.holds("the README has " + line, at >= 0);
        if (at >= 0) {
            String comment = readme.substring(at + line.length(), readme.indexOf('\n', at)).trim();
            boolean begins = comment.equals("// " + answer) || comment.startsWith("// " + answer + ":");
            due.holds(line + " answers " + answer + ", the README tells " + comment, begins);
        }
    }

    private static void names() {
        for (Method m : SungHarvest.class.getDeclaredMethods()) {
            if (Modifier.isPublic(m.getModifiers())) {
                due.holds("the README names " + m.getName(), readme.contains("`" + m.getName() + "`"));
            }
        }
        String[] refusals = {"`NONE` (-1)", "`BAD` (-2)", "`STATE` (-3)", "`FULL` (-4)", "| -5 |", "| -10 and below",
            "-11, -12, -13, -14", "NOTHING", "CAST", "PLACE", "SIZE", "-10001", "`NO`"};
        for (String refusal : refusals) {
            due.holds("the README tells of " + refusal, readme.contains(refusal));
        }
        due.holds("the README says how to run the tests", readme.contains("`.ci/run`"));
    }
}
