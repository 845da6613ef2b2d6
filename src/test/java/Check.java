import java.nio.charset.StandardCharsets;
import java.util.function.IntToLongFunction;

/** What all tests share: telling texts to an object, and counting answers that are not due. */
final class Check {
    /** Nothing there, as most amounts tell it. */
    static final int NO = -1000000;
    /** Two people of whom one rules: values 17 5 12 12 and 2 2 7 2, odds 2 1 1 0 of 4. */
    static final String TOWN = "hours 4;gain 0 5 twice;loss 1 3 once;gain 2 7 undone;person 10;person 4;does 0 0 0;"
        + "does 0 1 2;does 1 0 1;does 1 2 0;lot 1 0 2;lot 1 3 0;";

    private final String name;
    private int asked = 0;
    private int wrong = 0;

    Check(String name) {
        this.name = name;
    }

    void due(String call, long got, long want) {
        asked++;
        if (got != want) {
            wrong++;
            System.out.println(call + " answered " + got + ", due is " + want);
        }
    }

    void due(String call, boolean got, boolean want) {
        due(call, got ? 1 : 0, want ? 1 : 0);
    }

    /** A call for from, from + 1 and so on, each with the answer due. */
    void row(String call, int from, IntToLongFunction of, long... want) {
        for (int i = 0; i < want.length; i++) {
            due(call + ", at " + (from + i), of.applyAsLong(from + i), want[i]);
        }
    }

    /** A text to a new object, as a further one: the fault due, and its place. */
    void fault(int sort, String text, int fault, int place) {
        GluedHour x = new GluedHour();
        due("text " + text, tell(x, sort, GluedHour.NONE, text), fault == 0 ? 0 : GluedHour.NONE);
        due("fault of " + text, x.fault(0), fault);
        due("place of " + text, x.fault(1), place);
        due("count behind " + text, x.count(sort), fault == 0 ? 1 : 0);
    }

    /** A text without a fault. */
    void good(int sort, String text) {
        fault(sort, text, 0, GluedHour.NONE);
    }

    void end() {
        System.out.println(name + ": " + asked + " answers, " + wrong + " not as due");
        if (wrong != 0 || asked == 0) {
            System.exit(1);
        }
    }

    /** Puts a text on an empty tape. */
    static void tape(GluedHour x, String text) {
        byte[] bytes = text.getBytes(StandardCharsets.ISO_8859_1);
        x.end(0);
        for (int at = 0; at < bytes.length; at += 20) {
            x.feed(four(bytes, at), four(bytes, at + 4), four(bytes, at + 8), four(bytes, at + 12), four(bytes, at + 16));
        }
        x.end(bytes.length);
    }

    static int tell(GluedHour x, int sort, int at, String text) {
        tape(x, text);
        return x.text(sort, at);
    }

    /** A new object with these texts, each as a further one of its sort (none for null). */
    static GluedHour with(String... texts) {
        GluedHour x = new GluedHour();
        for (int sort = 0; sort < texts.length; sort++) {
            if (texts[sort] != null && tell(x, sort, GluedHour.NONE, texts[sort]) != 0) {
                throw new IllegalStateException("a test's text has a fault: " + texts[sort]);
            }
        }
        return x;
    }

    static int four(byte[] bytes, int at) {
        int all = 0;
        for (int i = at; i < at + 4; i++) {
            all = all << 8 | (i < bytes.length ? bytes[i] & 255 : 32);
        }
        return all;
    }
}
