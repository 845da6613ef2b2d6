import java.lang.reflect.Constructor;
import java.lang.reflect.Field;
import java.lang.reflect.Method;
import java.lang.reflect.Modifier;
import java.nio.file.Files;
import java.nio.file.Path;
import java.util.ArrayList;
import java.util.Collections;
import java.util.List;

/** The face is the document's and no more, and the source keeps to what LANGUAGE.md leaves. */
public final class FaceTest {
    private static final Check CHECK = new Check("FaceTest");
    private static final String FACE = "again(int)boolean;buyer(int,int)int;clock(int,int,int,int)int;count(int)int;day(int,int)int;"
        + "doom(int,int,int,boolean)long;drawn(int,int,int,int)int;end(int)int;errand(int,int,int)int;fault(int)int;"
        + "feed(int,int,int,int,int)int;feud(int,int)int;fits(int,int,int)int;free(int,int,boolean)int;"
        + "gain(int,int,int,boolean)int;holds(int,int,int)int;hope(int,int,int,boolean)long;image(int)boolean;"
        + "likely(int,int,int,boolean)long;mean(int,int,boolean)int;odds(int,int,boolean)int;person(int,int,int)int;"
        + "plan(int,int,int)int;promise(int,int,int,boolean)int;purse(int,int,int,int)int;reign(int,int,int)int;"
        + "republic(int,int)int;ruling(int,int)int;shift(int,int,int)int;sight(int,int,int)int;text(int,int)int;"
        + "tight(int,int)int;train(int,int,int)int;trust(int,int,boolean)int;two(int,int,int,int)int;"
        + "value(int,int,int)int;wish(int,int)int";

    public static void main(String[] args) throws Exception {
        members();
        insideClasses();
        source();
        CHECK.end();
    }

    private static void members() {
        Class<?> c = GluedHour.class;
        CHECK.due("public and final", c.getModifiers(), Modifier.PUBLIC | Modifier.FINAL);
        CHECK.due("NONE", GluedHour.NONE, -1);
        List<String> face = new ArrayList<>();
        for (Method m : c.getDeclaredMethods()) {
            if (!Modifier.isPrivate(m.getModifiers())) {
                CHECK.due(m + " is public and no more", m.getModifiers(), Modifier.PUBLIC);
                List<String> types = new ArrayList<>();
                for (Class<?> t : m.getParameterTypes()) {
                    types.add(t.getName());
                }
                face.add(m.getName() + "(" + String.join(",", types) + ")" + m.getReturnType().getName());
            }
        }
        Collections.sort(face);
        CHECK.due("the face is " + String.join(";", face), String.join(";", face).equals(FACE), true);
        Constructor<?>[] made = c.getDeclaredConstructors();
        CHECK.due("one constructor", made.length, 1);
        CHECK.due("it is public", made[0].getModifiers(), Modifier.PUBLIC);
        for (Field f : c.getDeclaredFields()) {
            boolean constant = f.getName().equals("NONE");
            CHECK.due(f + " is private or NONE", constant || Modifier.isPrivate(f.getModifiers()), true);
            CHECK.due(f + " is final", Modifier.isFinal(f.getModifiers()), true);
        }
    }

    private static void insideClasses() {
        Class<?>[] inside = GluedHour.class.getDeclaredClasses();
        CHECK.due("at most twelve classes", inside.length <= 11, true);
        for (Class<?> c : inside) {
            CHECK.due(c + " is static", Modifier.isStatic(c.getModifiers()), true);
            CHECK.due(c + " is private", Modifier.isPrivate(c.getModifiers()), true);
            int fields = 0;
            for (Field f : c.getDeclaredFields()) {
                fields += Modifier.isStatic(f.getModifiers()) ? 0 : 1;
                CHECK.due(f + ", if static, is final", !Modifier.isStatic(f.getModifiers()) || Modifier.isFinal(f.getModifiers()), true);
            }
            CHECK.due(c + " has few fields", fields <= 20, true);
            for (Method m : c.getDeclaredMethods()) {
                CHECK.due(m + " has no name of the face", FACE.contains(";" + m.getName() + "("), false);
            }
        }
        List<String> own = new ArrayList<>();
        for (Method m : GluedHour.class.getDeclaredMethods()) {
            if (Modifier.isPrivate(m.getModifiers())) {
                CHECK.due(m + " has no name of the face", (";" + FACE).contains(";" + m.getName() + "("), false);
                own.add(m.getName());
            }
            CHECK.due(m + " takes at most seven", m.getParameterCount() <= 7, true);
        }
        CHECK.due("no lambda in " + own, own.toString().contains("lambda"), false);
    }

    private static void source() throws Exception {
        String text = Files.readString(Path.of("src/main/java/GluedHour.java"));
        String code = text.replaceAll("(?s)/\\*.*?\\*/", "").replaceAll("//[^\n]*", "");
        for (String word : List.of("throw", "throws", "try", "catch", "synchronized", "assert", "import", "package", "protected",
            "hashCode", "toString", "equals", "record", "enum", "System.out", "Long.MIN_VALUE")) {
            CHECK.due("no " + word, code.matches("(?s).*\\b" + word + "\\b.*"), false);
        }
        for (String sign : List.of("->", "::", "Exact(", "new Object", "@", "[][]")) {
            CHECK.due("no " + sign, code.contains(sign), false);
        }
        for (char c : text.toCharArray()) {
            if (c != '\n' && (c < 32 || c > 126)) {
                CHECK.due("a sign outside ASCII", c, ' ');
            }
        }
        methodsAreShort(code);
    }

    /** A method begins at its brace, four or eight in, and ends where that closes. */
    private static void methodsAreShort(String code) {
        String[] lines = code.split("\n");
        int begun = -1;
        String indent = "";
        for (int i = 0; i < lines.length; i++) {
            if (begun < 0 && lines[i].matches(" {4,8}[a-zA-Z].*\\) \\{") && !lines[i].contains("class ")) {
                begun = i;
                indent = lines[i].replaceAll("\\S.*", "");
            } else if (begun >= 0 && lines[i].equals(indent + "}")) {
                CHECK.due("long: " + lines[begun], i - begun + 1 <= 60, true);
                begun = -1;
            }
        }
        CHECK.due("every method ends", begun, -1);
    }
}
