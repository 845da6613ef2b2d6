/** Promises 22, 23 and 35: errands, planned blind and knowing, and free ones. */
public final class ErrandTest {
    private static final Check CHECK = new Check("ErrandTest");
    private static final int NONE = GluedHour.NONE;
    private static final int NO = Check.NO;

    public static void main(String[] args) {
        errands();
        plan();
        firstByRows();
        hoursThere();
        cannot();
        noErrands();
        regret();
        sixErrands();
        wrong();
        CHECK.end();
    }

    private static GluedHour with(String republic, String errands) {
        return Check.with(republic, null, errands);
    }

    private static void errands() {
        GluedHour x = with(Check.TOWN, "errand 0 0 2;errand 2 3 11;");
        CHECK.row("how many", -1, w -> x.errand(0, NONE, w), -2, 2, -2, -2);
        CHECK.row("of 0", -1, w -> x.errand(0, 0, w), -2, 0, 0, 2, -2);
        CHECK.row("of 1", -1, w -> x.errand(0, 1, w), -2, 2, 3, 11, -2);
        CHECK.due("of 2", x.errand(0, 2, 0), -2);
        CHECK.due("of -2", x.errand(0, -2, 0), -2);
    }

    private static void plan() {
        GluedHour x = with(Check.TOWN, "errand 0 0 2;errand 2 0 1;");
        CHECK.row("plan", -1, w -> x.plan(0, 0, w), NO, 51, 4, 17, 1, 17, 4, 1, NO, NO, NO, 0, 1, NO);
        CHECK.due("free", x.free(0, 0, false), 7);
        CHECK.due("free, under", x.free(0, 0, true), 4);
    }

    private static void firstByRows() {
        GluedHour x = with("hours 5;gain 0 3 once;", "errand 0 1 4;errand 0 0 4;errand 0 0 2;");
        CHECK.row("hours", 10, w -> x.plan(0, 0, w), 1, 0, 2, NO);
        // All hours are alike to it, so the first errand stays at 0 though the second must be there, too.
        GluedHour y = with("hours 3;gain 0 3 twice;", "errand 0 0 2;errand 0 0 0;");
        CHECK.row("hours", 10, w -> y.plan(0, 0, w), 1, 0, NO);
        CHECK.row("worth", 0, w -> y.plan(0, 0, w), 8, 1, 9, 1, 1, 1, 2);
    }

    /** An hour that the republic has not can't be chosen. */
    private static void hoursThere() {
        GluedHour x = with("hours 3;gain 0 1 twice;person 0;lot 0 2 2;", "errand 0 0 11;");
        CHECK.due("hour", x.plan(0, 0, 10), 2);
        CHECK.row("worth", 0, w -> x.plan(0, 0, w), 3, 2);
        GluedHour y = with("hours 3;gain 0 1 twice;", "errand 0 3 11;");
        CHECK.due("none of them is there", y.plan(0, 0, 0), NO);
        CHECK.due("free of it", y.free(0, 0, false), NO);
    }

    private static void cannot() {
        GluedHour x = with("hours 8;", "errand 0 2 3;errand 1 2 3;errand 2 2 3;");
        CHECK.row("plan", 0, w -> x.plan(0, 0, w), NO, NO, NO, NO, NO, NO, NO);
        CHECK.due("hour", x.plan(0, 0, 10), NO);
        CHECK.due("free", x.free(0, 0, false), NO);
        GluedHour y = with("hours 2;", "errand 0 0 5;".repeat(3));
        CHECK.due("more than hours", y.plan(0, 0, 0), NO);
    }

    private static void noErrands() {
        GluedHour x = with(Check.TOWN, "");
        CHECK.row("plan", -1, w -> x.plan(0, 0, w), NO, 0, 1, 0, 1, 0, 1, NONE, NO);
        CHECK.due("hour", x.plan(0, 0, 10), NO);
        CHECK.due("free", x.free(0, 0, false), 0);
        CHECK.due("free, under", x.free(0, 0, true), 1);
        CHECK.due("how many", x.errand(0, NONE, 0), 0);
    }

    private static void regret() {
        // Alone in hour 0 .. 0 nothing could be better.
        CHECK.due("none", with(Check.TOWN, "errand 0 0 0;").plan(0, 0, 6), NONE);
        // Hour 3 has no odds, so nobody regrets it.
        CHECK.due("no odds", with(Check.TOWN, "errand 0 3 3;errand 0 2 3;").plan(0, 0, 6), NONE);
        CHECK.due("the least of several", with("hours 4;gain 0 3 twice;", "errand 0 0 3;").plan(0, 0, 6), 1);
        CHECK.due("by no more than 1", with("hours 4;gain 0 1 twice;", "errand 0 0 3;").plan(0, 0, 6), 1);
        // Blind 1, 0, worth 12, 9, 7, 7 by the stuck hour; knowing it 12, 12, 12, 9.
        GluedHour two = with("hours 4;gain 0 5 twice;gain 1 2 twice;person 0;lot 0 0 9;lot 0 1 9;", "errand 1 1 3;errand 0 0 2;");
        CHECK.row("of two", 0, w -> two.plan(0, 0, w), 203, 20, 237, 20, 17, 10, 2);
        // What is undone is better elsewhere: its hour is regretted.
        GluedHour x = with("hours 2;gain 0 3 undone;person 0;lot 0 0 2;", "errand 0 0 1;");
        CHECK.row("undone", 0, w -> x.plan(0, 0, w), 2, 1, 3, 1, 1, 1, 1);
        CHECK.due("its hour", x.plan(0, 0, 10), 1);
        GluedHour y = with("hours 2;loss 0 3 twice;person 0;lot 0 0 2;", "errand 0 0 1;");
        CHECK.row("a loss", 0, w -> y.plan(0, 0, w), -4, 1, -3, 1, 1, 1, 1);
    }

    private static void sixErrands() {
        GluedHour x = with("hours 12;gain 0 10 twice;loss 1 10 twice;gain 2 99 undone;person 0;lot 0 11 9;lot 0 10 8;lot 0 0 0;"
            + "lot 0 1 0;lot 0 2 0;", "errand 0 0 11;errand 0 0 11;errand 1 0 11;errand 1 0 11;errand 2 0 11;errand 2 8 11;");
        // Weights 0 0 0 1 1 1 1 1 1 1 8 9, of 24: gains at 10 and 11, all else where nothing is stuck, or 8.
        CHECK.row("hours", 10, w -> x.plan(0, 0, w), 10, 11, 0, 1, 2, 8, NO);
        CHECK.due("worth", x.plan(0, 0, 0), (10 * 24 + 80 + 10 * 24 + 90 - 480 + 2 * 99 * 24 - 99));
        CHECK.due("worth, under", x.plan(0, 0, 1), 24);
        CHECK.due("free", x.free(0, 0, false), (99 - 10));
        CHECK.due("free, under", x.free(0, 0, true), 24);
    }

    private static void wrong() {
        GluedHour x = with(Check.TOWN, "errand 0 0 2;");
        for (int k : new int[] {-1, 1, 2, Integer.MIN_VALUE, Integer.MAX_VALUE}) {
            CHECK.due("errand", x.errand(k, NONE, 0), -2);
            CHECK.due("plan", x.plan(k, 0, 0), NO);
            CHECK.due("plan of errands", x.plan(0, k, 0), NO);
            CHECK.due("free", x.free(k, 0, true), NO);
            CHECK.due("free of errands", x.free(0, k, true), NO);
        }
        CHECK.due("plan greatest", x.plan(0, 0, Integer.MAX_VALUE), NO);
        CHECK.due("plan least", x.plan(0, 0, Integer.MIN_VALUE), NO);
    }
}
