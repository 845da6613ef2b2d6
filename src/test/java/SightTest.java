/** Promises 27 and 28: purses seen, and which hours it was. */
public final class SightTest {
    private static final Check CHECK = new Check("SightTest");
    private static final int NONE = GluedHour.NONE;
    private static final int NO = Check.NO;

    public static void main(String[] args) {
        sights();
        oneDay();
        twoDays();
        severalSights();
        noSights();
        notThere();
        owed();
        byRulers();
        threeDays();
        wrong();
        CHECK.end();
    }

    private static GluedHour with(String republic, String sights) {
        return Check.with(republic, null, null, null, sights);
    }

    private static void sights() {
        GluedHour x = with(Check.TOWN, "has 1 0 22;owes 3 5 999;owes 2 1 0;");
        CHECK.row("how many", -1, w -> x.sight(0, NONE, w), NO, 3, NO);
        CHECK.row("of 0", -1, w -> x.sight(0, 0, w), NO, 1, 0, 22, NO);
        CHECK.row("of 1", -1, w -> x.sight(0, 1, w), NO, 3, 5, -999, NO);
        CHECK.row("of 2", -1, w -> x.sight(0, 2, w), NO, 2, 1, 0, NO);
        CHECK.due("of 3", x.sight(0, 3, 0), NO);
        CHECK.due("of -2", x.sight(0, -2, 0), NO);
    }

    private static void oneDay() {
        // By hours 2 and 3 he has 22, but hour 3 has no odds.
        GluedHour x = with(Check.TOWN, "has 1 0 22;");
        CHECK.row("fits", -1, w -> x.fits(0, 0, w), -2, 1, -2);
        CHECK.row("sure", 9, w -> x.fits(0, 0, w), -2, 2, -2);
        CHECK.row("maybe", 19, w -> x.fits(0, 0, w), -2, 4, -2);
        GluedHour z = with(Check.TOWN, "has 1 0 27;");
        CHECK.due("sure of hour 0", z.fits(0, 0, 10), 0);
        CHECK.due("maybe hour 0", z.fits(0, 0, 20), 1);
        GluedHour y = with(Check.TOWN, "has 1 0 23;");
        CHECK.due("never", y.fits(0, 0, 0), 0);
        CHECK.due("never sure", y.fits(0, 0, 10), NONE);
        CHECK.due("never maybe", y.fits(0, 0, 20), 0);
    }

    private static void twoDays() {
        GluedHour x = with(Check.TOWN, "has 2 1 13;");
        CHECK.due("rows", x.fits(0, 0, 0), 4);
        CHECK.row("sure", 9, w -> x.fits(0, 0, w), -2, NONE, NONE, -2);
        CHECK.row("maybe", 19, w -> x.fits(0, 0, w), -2, 7, 7, -2);
    }

    private static void severalSights() {
        GluedHour x = with(Check.TOWN, "has 2 1 13;has 1 1 6;");
        CHECK.due("rows", x.fits(0, 0, 0), 2);
        CHECK.row("sure", 10, w -> x.fits(0, 0, w), NONE, 2);
        CHECK.row("maybe", 20, w -> x.fits(0, 0, w), 3, 4);
        GluedHour y = with(Check.TOWN, "has 1 1 6;has 1 1 11;");
        CHECK.due("both can't be", y.fits(0, 0, 0), 0);
    }

    private static void noSights() {
        GluedHour x = with(Check.TOWN, "");
        CHECK.row("fits", -1, w -> x.fits(0, 0, w), -2, 1, -2);
        CHECK.due("no day is sure", x.fits(0, 0, 10), -2);
        CHECK.due("no day may be", x.fits(0, 0, 20), -2);
        CHECK.due("how many", x.sight(0, NONE, 0), 0);
    }

    private static void notThere() {
        GluedHour x = with(Check.TOWN, "has 1 2 0;");
        CHECK.due("rows", x.fits(0, 0, 0), 0);
        CHECK.due("sure", x.fits(0, 0, 10), NONE);
        CHECK.due("maybe", x.fits(0, 0, 20), 0);
    }

    private static void owed() {
        GluedHour x = with("loss 0 4 twice;person 1;does 0 7 0;", "owes 1 0 7;");
        CHECK.due("rows", x.fits(0, 0, 0), 1);
        CHECK.due("sure", x.fits(0, 0, 10), 7);
        Check.tell(x, 4, 0, "owes 1 0 3;");
        CHECK.due("rows", x.fits(0, 0, 0), 7);
        CHECK.due("maybe", x.fits(0, 0, 20), 127);
        Check.tell(x, 4, 0, "owes 1 0 8;");
        CHECK.due("rows", x.fits(0, 0, 0), 0);
    }

    /** Odds of each day are those of who is poorest then. */
    private static void byRulers() {
        GluedHour x = with("hours 2;gain 0 3 twice;person 0;person 4;does 0 0 0;lot 0 1 2;lot 1 1 0;", "has 2 1 4;");
        // By hour 0 the other one rules, who never lets it be hour 1.
        CHECK.due("rows", x.fits(0, 0, 0), 3);
        CHECK.row("maybe", 20, w -> x.fits(0, 0, w), 3, 3);
    }

    private static void threeDays() {
        GluedHour x = with("hours 12;person 0;", "has 3 0 0;");
        CHECK.due("rows", x.fits(0, 0, 0), 1728);
        CHECK.row("maybe", 20, w -> x.fits(0, 0, w), 4095, 4095, 4095, -2);
        CHECK.row("sure", 10, w -> x.fits(0, 0, w), NONE, NONE, NONE, -2);
    }

    private static void wrong() {
        GluedHour x = with(Check.TOWN, "has 1 0 22;");
        for (int k : new int[] {-1, 1, 2, Integer.MIN_VALUE, Integer.MAX_VALUE}) {
            CHECK.due("sight", x.sight(k, NONE, 0), NO);
            CHECK.due("fits", x.fits(k, 0, 0), -2);
            CHECK.due("fits of sights", x.fits(0, k, 0), -2);
        }
    }
}
