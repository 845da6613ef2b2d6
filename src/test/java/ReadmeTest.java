import java.lang.reflect.Method;
import java.lang.reflect.Modifier;
import java.nio.file.Files;
import java.nio.file.Path;
import java.util.ArrayList;
import java.util.List;
import java.util.regex.Matcher;
import java.util.regex.Pattern;

/** README.md's code stands below, line by line, and answers what the page says; its tables hold. */
public final class ReadmeTest {
    private static final Check CHECK = new Check("ReadmeTest");
    private static final List<String> PRINTED = new ArrayList<>();

    public static void main(String[] args) throws Exception {
        String page = Files.readString(Path.of("README.md"));
        codeIsThePages(page, Files.readString(Path.of("src/test/java/ReadmeTest.java")));
        asking();
        answersAreThePages(page);
        everyCallIsNamed(page);
        linesCanBeTold(page);
        CHECK.end();
    }

    private static void codeIsThePages(String page, String own) {
        for (String block : blocks(page)) {
            CHECK.due("the test has this as it stands:\n" + block, squeezed(own).contains(squeezed(block)), true);
        }
        CHECK.due("blocks of code", blocks(page).size(), 2);
    }

    private static List<String> blocks(String page) {
        List<String> all = new ArrayList<>();
        Matcher m = Pattern.compile("(?s)```java\n(.*?)```").matcher(page);
        while (m.find()) {
            all.add(m.group(1));
        }
        return all;
    }

    /** A line without its comment and the blanks around it. */
    private static String bare(String line) {
        return line.replaceAll("//.*", "").strip();
    }

    private static String squeezed(String code) {
        return String.join("\n", code.lines().map(ReadmeTest::bare).filter(s -> !s.isEmpty()).toList());
    }

    private static void answersAreThePages(String page) {
        List<String> said = new ArrayList<>();
        Matcher m = Pattern.compile("(?m)^print\\(.*// (.*)$").matcher(page);
        while (m.find()) {
            said.add(m.group(1).strip());
        }
        CHECK.due("rows printed", PRINTED.size(), said.size());
        for (int i = 0; i < Math.min(said.size(), PRINTED.size()); i++) {
            CHECK.due("row " + i + " is " + PRINTED.get(i) + ", the page says " + said.get(i), said.get(i).equals(PRINTED.get(i)), true);
        }
    }

    private static void everyCallIsNamed(String page) {
        String asking = page.substring(page.indexOf("| calls |"), page.indexOf("## Tests"));
        for (Method m : GluedHour.class.getDeclaredMethods()) {
            if (Modifier.isPublic(m.getModifiers())) {
                CHECK.due("the page names " + m.getName(), asking.contains("`" + m.getName() + "`"), true);
            }
        }
    }

    /** The page's lines of each sort, with those that they need ahead of them. */
    private static void linesCanBeTold(String page) {
        for (int sort = 0; sort < 5; sort++) {
            Matcher row = Pattern.compile("(?m)^\\| " + sort + " \\|.*$").matcher(page);
            CHECK.due("a row of sort " + sort, row.find(), true);
            StringBuilder text = new StringBuilder(sort == 0 ? "person 1;" : "");
            Matcher line = Pattern.compile("`([^`]*;)`").matcher(row.group());
            int lines = 0;
            while (line.find()) {
                text.append(line.group(1));
                lines++;
            }
            CHECK.due("the page has lines of sort " + sort, lines > 0, true);
            CHECK.good(sort, text.toString());
        }
    }

    private static void print(long... answers) {
        StringBuilder row = new StringBuilder();
        for (long answer : answers) {
            row.append(row.length() == 0 ? "" : " ").append(answer);
        }
        PRINTED.add(row.toString());
    }

    static int tell(GluedHour x, int sort, int at, String text) {
        x.end(0);
        for (int i = 0; i < text.length(); i += 20) {
            x.feed(four(text, i), four(text, i + 4), four(text, i + 8), four(text, i + 12), four(text, i + 16));
        }
        x.end(text.length());
        return x.text(sort, at);
    }

    static int four(String text, int from) {
        int all = 0;
        for (int i = from; i < from + 4; i++) {
            all = all << 8 | (i < text.length() ? text.charAt(i) & 255 : ' ');
        }
        return all;
    }

    private static void asking() {
        GluedHour x = new GluedHour();
        int town = tell(x, 0, GluedHour.NONE, "hours 4;gain 0 5 twice;loss 1 3 once;gain 2 7 undone;"
            + "person 10;person 4;does 0 0 0;does 0 1 2;does 1 0 1;does 1 2 0;lot 1 0 2;lot 1 3 0;");
        int week = tell(x, 1, GluedHour.NONE, "stuck 2;stuck 0;");
        int bad = tell(x, 1, GluedHour.NONE, "stuck 12;");
        print(bad, x.fault(0), x.fault(1));
        print(x.republic(town, 2), x.value(town, 0, 0));
        print(x.mean(town, 0, false), x.mean(town, 0, true));
        print(x.purse(town, week, 2, 0), x.purse(town, week, 2, 1));
        print(x.likely(town, week, 2, false), x.likely(town, week, 2, true));
        print(x.wish(town, 0), x.wish(town, 1), x.buyer(town, 0));
        print(x.value(town, 2, 0), x.value(9, 0, 0));
    }
}
