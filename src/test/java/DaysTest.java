/** Promises 10 to 13 and 29 to 31: weeks, what all have then, days by a seed, reigns, hope and doom. */
public final class DaysTest {
    private static final Check CHECK = new Check("DaysTest");
    private static final int NONE = GluedHour.NONE;
    private static final int NO = Check.NO;
    /** By hour 0 the first gets 6 and the other rules then; by hour 1 he gets 3 and rules on. */
    private static final String PAIR =
        "hours 2;gain 0 3 twice;person 0;person 4;does 0 0 0;lot 0 1 2;lot 1 1 0;";

    public static void main(String[] args) {
        days();
        purses();
        likely();
        likelyByRulers();
        drawn();
        drawnByRulers();
        reign();
        reignFalls();
        hope();
        hopeByRulers();
        nobody();
        wrong();
        CHECK.end();
    }

    private static void days() {
        GluedHour x = Check.with(Check.TOWN, "stuck 2;stuck 0;stuck 5;");
        CHECK.row("day", -2, k -> x.day(0, k), -2, 3, 2, 0, 5, -2);
        CHECK.row("of week", -1, w -> x.day(w, NONE), -2, 3, -2);
        CHECK.row("of week, day 0", -1, w -> x.day(w, 0), -2, 2, -2);
    }

    private static void purses() {
        GluedHour x = Check.with(Check.TOWN, "stuck 2;stuck 0;stuck 5;");
        CHECK.row("purse of 0", -1, n -> x.purse(0, 0, n, 0), NO, 10, 22, 39, NO, NO);
        CHECK.row("purse of 1", -1, n -> x.purse(0, 0, n, 1), NO, 4, 11, 13, NO, NO);
        CHECK.row("poorest", -1, n -> x.purse(0, 0, n, NONE), NO, 1, 1, 1, NO, NO);
        CHECK.row("whose", -2, p -> x.purse(0, 0, 1, p), NO, 1, 22, 11, NO);
        GluedHour y = Check.with("loss 0 99 twice;person 3;person 3;does 0 0 0;", "stuck 0;".repeat(14));
        CHECK.due("below 0", y.purse(0, 0, 14, 0), 3 - 14 * 198);
        CHECK.due("all days", y.purse(0, 0, 14, 1), 3);
        CHECK.due("one day too many", y.purse(0, 0, 15, 1), NO);
        CHECK.due("poorest then", y.purse(0, 0, 14, NONE), 0);
        GluedHour z = Check.with(Check.TOWN, "stuck 4;stuck 0;");
        CHECK.row("stops at once", 0, n -> z.purse(0, 0, n, 0), 10, NO, NO);
        CHECK.row("no odds behind it", 0, n -> z.likely(0, 0, n, true), 1, NONE, NONE);
    }

    private static void likely() {
        GluedHour x = Check.with(Check.TOWN, "stuck 2;stuck 0;stuck 5;");
        CHECK.row("likely", -1, n -> x.likely(0, 0, n, false), NONE, 1, 1, 1, NONE, NONE);
        CHECK.row("under", -1, n -> x.likely(0, 0, n, true), NONE, 1, 4, 8, NONE, NONE);
        GluedHour y = Check.with("hours 12;", "stuck 11;".repeat(14));
        CHECK.row("six days and no more", 5, n -> y.likely(0, 0, n, true), 248832, 2985984, NONE, NONE);
        GluedHour z = Check.with(Check.TOWN, "stuck 3;stuck 0;");
        CHECK.row("never", 1, n -> z.likely(0, 0, n, false), 0, 0, NONE);
        CHECK.row("never, under", 1, n -> z.likely(0, 0, n, true), 1, 1, NONE);
        GluedHour most = Check.with("hours 12;person 0;lot 0 0 9;lot 0 1 8;lot 0 2 9;lot 0 3 9;lot 0 4 9;lot 0 5 9;lot 0 6 9;"
            + "lot 0 7 9;lot 0 8 9;lot 0 9 9;lot 0 10 9;lot 0 11 9;", "stuck 0;".repeat(6));
        CHECK.due("a long one", most.likely(0, 0, 6, true), 107L * 107 * 107 * 107 * 107 * 107);
        CHECK.due("above", most.likely(0, 0, 6, false), 531441);
    }

    /** The odds of a day are those of who is poorest then. */
    private static void likelyByRulers() {
        GluedHour x = Check.with(PAIR, "stuck 0;stuck 0;stuck 1;");
        CHECK.row("likely", 0, n -> x.likely(0, 0, n, false), 1, 1, 1, 0);
        CHECK.row("under", 0, n -> x.likely(0, 0, n, true), 1, 3, 3, 1);
        Check.tell(x, 1, 0, "stuck 1;stuck 1;stuck 0;");
        CHECK.row("likely", 0, n -> x.likely(0, 0, n, false), 1, 2, 4, 4);
        CHECK.row("under", 0, n -> x.likely(0, 0, n, true), 1, 3, 9, 9);
    }

    private static void drawn() {
        GluedHour x = Check.with(Check.TOWN);
        // Seed 1 makes 16838, 38526, 10113, 50283, below 4: 2, 2, 1, 3, by weights 2, 1, 1, 0: hours 1, 1, 0, 2.
        CHECK.row("last hour", -1, n -> x.drawn(0, 1, n, 11), NO, NONE, 1, 1, 0, 2);
        CHECK.row("purse of 0", -1, n -> x.drawn(0, 1, n, 0), NO, 10, 15, 20, 37, 49);
        CHECK.row("purse of 1", -1, n -> x.drawn(0, 1, n, 1), NO, 4, 6, 8, 10, 17);
        CHECK.row("poorest", -1, n -> x.drawn(0, 1, n, 10), NO, 1, 1, 1, 1, 1);
        CHECK.row("how often", 19, w -> x.drawn(0, 1, 4, w), NO, 1, 2, 1, 0, NO);
        CHECK.row("whose", -1, w -> x.drawn(0, 1, 4, w), NO, 49, 17, NO, NO, NO, NO, NO);
        CHECK.row("other whats", 6, w -> x.drawn(0, 1, 4, w), NO, NO, NO, NO, 1, 2, NO, NO);
        CHECK.row("days", 59, n -> x.drawn(0, 1, n, 11) == NO ? 1 : 0, 0, 0, 1, 1);
        int seen = 0;
        for (int h = 0; h < 4; h++) {
            seen += x.drawn(0, -77, 60, 20 + h);
        }
        CHECK.due("sixty days", seen, 60);
        CHECK.due("an hour of no weight", x.drawn(0, -77, 60, 23), 0);
        // Seed -1 makes 48697: shifted without sign.
        GluedHour y = Check.with("hours 12;");
        CHECK.due("a seed below 0", y.drawn(0, -1, 1, 11), 48697 % 12);
    }

    private static void drawnByRulers() {
        GluedHour x = Check.with(PAIR);
        // Seed 0 draws 0 below 3: hour 0, and the other one rules, by whom it is hour 0 for ever.
        CHECK.row("purse of 0", 0, n -> x.drawn(0, 0, n, 0), 0, 6, 12, 18);
        CHECK.row("poorest", 0, n -> x.drawn(0, 0, n, 10), 0, 1, 1, 1);
        CHECK.row("how often", 20, w -> x.drawn(0, 0, 60, w), 60, 0);
    }

    private static void reign() {
        GluedHour x = Check.with(Check.TOWN);
        CHECK.row("purse of 0", -1, n -> x.reign(0, n, 0), NO, 10, 22, 34, 46);
        CHECK.row("purse of 1", -1, n -> x.reign(0, n, 1), NO, 4, 11, 18, 25);
        CHECK.row("poorest", -1, n -> x.reign(0, n, 10), NO, 1, 1, 1);
        CHECK.row("no fall", -1, n -> x.reign(0, n, 11), NO, NONE, NONE);
        CHECK.row("how often one chose", 19, w -> x.reign(0, 3, w), NO, 0, 3, NO);
        CHECK.row("hours", 99, w -> x.reign(0, 3, w), NO, 2, 2, 2, NO);
        CHECK.row("other whats", -1, w -> x.reign(0, 3, w), NO, 46, 25, NO, NO, NO, NO, NO, NO, NO, NO, 1, NONE, NO);
        CHECK.row("days", 59, n -> x.reign(0, n, 0), 10 + 59 * 12, 10 + 60 * 12, NO);
        CHECK.row("the last of sixty", 158, w -> x.reign(0, 60, w), 2, 2, NO);
    }

    private static void reignFalls() {
        // 0 gets 4 in hour 1, 1 gets 3 in hour 0: who rules takes his twice.
        GluedHour x = Check.with("hours 3;gain 0 4 twice;gain 1 3 twice;person 0;person 5;does 0 1 0;does 1 0 1;");
        CHECK.row("purse of 0", 0, n -> x.reign(0, n, 0), 0, 8, 16, 20);
        CHECK.row("purse of 1", 0, n -> x.reign(0, n, 1), 5, 8, 11, 17);
        CHECK.row("poorest", 0, n -> x.reign(0, n, 10), 0, 0, 1, 1);
        CHECK.row("fall", 0, n -> x.reign(0, n, 11), NONE, NONE, 1, 1);
        CHECK.row("how often", 20, w -> x.reign(0, 3, w), 2, 1, NO);
        CHECK.row("hours", 100, w -> x.reign(0, 3, w), 1, 1, 0, NO);
    }

    private static void hope() {
        GluedHour x = Check.with(Check.TOWN);
        CHECK.row("hope of 0", -1, n -> x.hope(0, 0, n, false), NO, 10, 91, 71, NO);
        CHECK.row("hope of 0, under", -1, n -> x.hope(0, 0, n, true), NO, 1, 4, 2, NO);
        CHECK.row("hope of 1", -1, n -> x.hope(0, 1, n, false), NO, 4, 29, 21, NO);
        CHECK.row("hope of 1, under", -1, n -> x.hope(0, 1, n, true), NO, 1, 4, 2, NO);
        CHECK.row("doom of 0", -1, n -> x.doom(0, 0, n, false), NONE, 0, 0, 0, NONE);
        CHECK.row("doom of 1", -1, n -> x.doom(0, 1, n, false), NONE, 1, 1, 1, NONE);
        CHECK.row("doom of 1, under", -1, n -> x.doom(0, 1, n, true), NONE, 1, 1, 1, NONE);
        CHECK.row("whose hope", -1, p -> x.hope(0, p, 0, false), NO, 10, 4, NO);
        CHECK.row("whose doom", -1, p -> x.doom(0, p, 0, false), NONE, 0, 1, NONE);
    }

    private static void hopeByRulers() {
        GluedHour x = Check.with(PAIR);
        CHECK.row("hope", 0, n -> x.hope(0, 0, n, false), 0, 4, 26);
        CHECK.row("hope, under", 0, n -> x.hope(0, 0, n, true), 1, 1, 3);
        CHECK.row("doom of 0", 0, n -> x.doom(0, 0, n, false), 1, 2, 0);
        CHECK.row("doom of 0, under", 0, n -> x.doom(0, 0, n, true), 1, 3, 1);
        CHECK.row("doom of 1", 0, n -> x.doom(0, 1, n, false), 0, 1, 1);
        CHECK.row("doom of 1, under", 0, n -> x.doom(0, 1, n, true), 1, 3, 1);
    }

    private static void nobody() {
        GluedHour x = Check.with("hours 3;", "stuck 2;stuck 3;");
        CHECK.row("poorest", 0, n -> x.purse(0, 0, n, NONE), NONE, NONE, NO);
        CHECK.due("purse", x.purse(0, 0, 0, 0), NO);
        CHECK.row("likely", 0, n -> x.likely(0, 0, n, true), 1, 3, NONE);
        CHECK.due("reign's poorest", x.reign(0, 2, 10), NONE);
        CHECK.due("reign's fall", x.reign(0, 2, 11), NONE);
        CHECK.row("reign's hours", 100, w -> x.reign(0, 2, w), 0, 0, NO);
        CHECK.due("nobody chose", x.reign(0, 2, 20), NO);
        CHECK.due("drawn's poorest", x.drawn(0, 5, 2, 10), NONE);
        CHECK.due("drawn's hour", x.drawn(0, 1, 1, 11), 16838 % 3);
        CHECK.due("hope", x.hope(0, 0, 1, false), NO);
        CHECK.due("doom", x.doom(0, 0, 1, false), NONE);
    }

    private static void wrong() {
        GluedHour x = Check.with(Check.TOWN, "stuck 2;");
        for (int r : new int[] {-1, 1, 2, Integer.MIN_VALUE, Integer.MAX_VALUE}) {
            CHECK.due("purse", x.purse(r, 0, 0, 0), NO);
            CHECK.due("purse of a week", x.purse(0, r, 0, 0), NO);
            CHECK.due("likely", x.likely(r, 0, 0, false), NONE);
            CHECK.due("likely of a week", x.likely(0, r, 0, false), NONE);
            CHECK.due("drawn", x.drawn(r, 0, 0, 10), NO);
            CHECK.due("reign", x.reign(r, 0, 10), NO);
            CHECK.due("hope", x.hope(r, 0, 0, false), NO);
            CHECK.due("doom", x.doom(r, 0, 0, false), NONE);
            CHECK.due("day", x.day(r, NONE), -2);
        }
    }
}
