/** Promises 24 to 26, 33 and 34: tables of trains, whether they hold, the least table, clocks. */
public final class TrainTest {
    private static final Check CHECK = new Check("TrainTest");
    private static final int NONE = GluedHour.NONE;

    public static void main(String[] args) {
        trains();
        holds();
        doesNotHold();
        fewTrains();
        least();
        leastByOtherHours();
        leastAboveEleven();
        clock();
        tight();
        wrong();
        CHECK.end();
    }

    private static GluedHour with(String republic, String table) {
        return Check.with(republic, null, null, table);
    }

    private static void trains() {
        GluedHour x = with(Check.TOWN, "train 0 2;train 2 1;train 11 9;");
        CHECK.row("how many", -1, w -> x.train(0, NONE, w), -2, 3, -2);
        CHECK.row("of 0", -1, w -> x.train(0, 0, w), -2, 0, 2, -2);
        CHECK.row("of 2", -1, w -> x.train(0, 2, w), -2, 11, 9, -2);
        CHECK.due("of 3", x.train(0, 3, 0), -2);
        CHECK.due("of -2", x.train(0, -2, 0), -2);
    }

    private static void holds() {
        GluedHour x = with(Check.TOWN, "train 0 2;train 2 1;train 4 3;");
        CHECK.row("holds", -2, h -> x.holds(0, 0, h), -1000, 0, 1, 1, 1, 1, -1000);
        CHECK.row("trust", 0, u -> x.trust(0, 0, u == 1), 1, 1);
        CHECK.due("tight", x.tight(0, 0), 0);
    }

    private static void doesNotHold() {
        GluedHour x = with(Check.TOWN, "train 0 3;train 2 1;");
        CHECK.row("holds", -2, h -> x.holds(0, 0, h), -1000, -1, 1, 1, 0, 0, -1000);
        CHECK.row("trust", 0, u -> x.trust(0, 0, u == 1), 3, 4);
        GluedHour y = with(Check.TOWN, "train 2 1;train 2 1;");
        CHECK.row("never", -1, h -> y.holds(0, 0, h), -1, 0, 0, 0, 0);
        CHECK.row("no trust", 0, u -> y.trust(0, 0, u == 1), 0, 1);
        GluedHour z = with(Check.TOWN, "train 11 9;train 0 1;");
        CHECK.due("far behind", z.holds(0, 0, NONE), 0 - 12 - 9);
        // Trains behind the last hour: that one is stuck or not, they are one later.
        GluedHour late = with("hours 2;", "train 1 2;train 3 1;");
        CHECK.row("late", -1, h -> late.holds(0, 0, h), 0, 1, 1, -1000);
    }

    private static void fewTrains() {
        GluedHour x = with(Check.TOWN, "");
        CHECK.row("none", -1, h -> x.holds(0, 0, h), 1000, 1, 1, 1, 1, -1000);
        CHECK.due("no train is tight", x.tight(0, 0), NONE);
        CHECK.row("trust", 0, u -> x.trust(0, 0, u == 1), 1, 1);
        CHECK.due("no clock", x.clock(0, 0, 0, NONE), NONE);
        CHECK.due("how many", x.train(0, NONE, 0), 0);
        GluedHour y = with(Check.TOWN, "train 3 9;");
        CHECK.row("one", -1, h -> y.holds(0, 0, h), 1000, 1, 1, 1, 1, -1000);
        CHECK.due("one is not tight", y.tight(0, 0), NONE);
        CHECK.due("least of one", y.clock(0, 0, 0, NONE), 3);
    }

    private static void least() {
        GluedHour x = with(Check.TOWN, "train 0 2;train 2 1;train 4 3;");
        CHECK.row("least", -1, k -> x.clock(0, 0, k, NONE), NONE, 0, 2, 3, NONE);
        GluedHour y = with(Check.TOWN, "train 0 3;train 2 1;");
        CHECK.row("later than told", 0, k -> y.clock(0, 0, k, NONE), 0, 3);
        // From hour 0 a ride longer than all hours passes the stuck one, whichever it is.
        GluedHour z = with("hours 2;", "train 0 3;train 0 1;");
        CHECK.row("every hour passed", 0, k -> z.clock(0, 0, k, NONE), 0, 2);
        GluedHour same = with("hours 2;", "train 0 2;train 0 1;");
        CHECK.row("not every hour", 0, k -> same.clock(0, 0, k, NONE), 0, 2);
        GluedHour one = with("hours 2;", "train 1 3;train 0 1;");
        CHECK.row("from hour 1", 0, k -> one.clock(0, 0, k, NONE), 1, 4);
    }

    /** What is no hour 0 .. 11 asks for the least table, as the promise's words have it. */
    private static void leastByOtherHours() {
        GluedHour x = with(Check.TOWN, "train 0 2;train 2 1;");
        for (int hour : new int[] {Integer.MIN_VALUE, -2, NONE, 12, 13, Integer.MAX_VALUE}) {
            CHECK.row("least by " + hour, -1, k -> x.clock(0, 0, k, hour), NONE, 0, 2, NONE);
        }
    }

    private static void leastAboveEleven() {
        GluedHour x = with("hours 12;", "train 11 9;".repeat(8));
        CHECK.row("least", 0, k -> x.clock(0, 0, k, NONE), 11, 20, 29, 38, 47, 56, 65, 74, NONE);
    }

    private static void clock() {
        GluedHour x = with(Check.TOWN, "train 0 2;train 2 1;train 4 3;");
        CHECK.row("of 0", 0, h -> x.clock(0, 0, 0, h), 1, 1, 2, 2);
        CHECK.row("of 1", 0, h -> x.clock(0, 0, 1, h), 3, 3, 2, 3);
        CHECK.row("of 2", 0, h -> x.clock(0, 0, 2, h), 7, 7, 7, 7);
        CHECK.row("hours not there", 4, h -> x.clock(0, 0, 0, h), NONE, NONE, NONE, NONE, NONE, NONE, NONE, NONE);
        GluedHour y = with("hours 12;", "train 11 9;train 0 9;");
        CHECK.row("behind the last hour", 10, h -> y.clock(0, 0, 0, h), 20, 19);
        CHECK.row("the stuck one twice", 7, h -> y.clock(0, 0, 1, h), 8, 8, 9, 9);
    }

    private static void tight() {
        CHECK.due("of two", with(Check.TOWN, "train 0 1;train 5 5;").tight(0, 0), 0);
        CHECK.due("last but one", with(Check.TOWN, "train 0 1;train 5 5;train 9 9;").tight(0, 0), 1);
        CHECK.due("the least of several", with(Check.TOWN, "train 0 1;train 4 4;train 8 3;train 11 2;").tight(0, 0), 1);
        // By stuck hours: 0 to 2 has 2 or 3 hours, 2 to 4 has 3 or 2.
        CHECK.due("by any hour", with(Check.TOWN, "train 0 2;train 2 3;train 4 1;").tight(0, 0), 1);
    }

    private static void wrong() {
        GluedHour x = with(Check.TOWN, "train 0 2;train 2 1;");
        for (int k : new int[] {-1, 1, 2, Integer.MIN_VALUE, Integer.MAX_VALUE}) {
            CHECK.due("train", x.train(k, NONE, 0), -2);
            CHECK.due("holds", x.holds(k, 0, 0), -1000);
            CHECK.due("slack", x.holds(k, 0, NONE), -1000);
            CHECK.due("holds of a table", x.holds(0, k, 0), -1000);
            CHECK.due("clock", x.clock(k, 0, 0, 0), NONE);
            CHECK.due("clock of a table", x.clock(0, k, 0, 0), NONE);
            CHECK.due("least", x.clock(k, 0, 0, NONE), NONE);
            CHECK.due("least of a table", x.clock(0, k, 0, NONE), NONE);
            CHECK.due("trust", x.trust(k, 0, true), NONE);
            CHECK.due("trust of a table", x.trust(0, k, true), NONE);
            CHECK.due("tight", x.tight(k, 0), NONE);
            CHECK.due("tight of a table", x.tight(0, k), NONE);
        }
        CHECK.row("clock of train", 1, k -> x.clock(0, 0, k, 0), 3, NONE, NONE);
    }
}
