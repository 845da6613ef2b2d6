/** Promises 6 to 9, 14 to 21 and 32: republics, people, values, odds, and what is wished for. */
public final class RepublicTest {
    private static final Check CHECK = new Check("RepublicTest");
    private static final int NONE = GluedHour.NONE;
    private static final int NO = Check.NO;

    public static void main(String[] args) {
        republics();
        people();
        values();
        odds();
        poorest();
        means();
        wishes();
        buyers();
        promises();
        twoHours();
        shifts();
        feuds();
        rulings();
        nobody();
        wrong();
        CHECK.end();
    }

    private static void republics() {
        GluedHour x = Check.with(Check.TOWN);
        CHECK.row("republic", -1, w -> x.republic(0, w), -1000, 4, 2, 1, -1000);
        CHECK.row("worths", 9, w -> x.republic(0, w), -1000, 5, -3, 7, 0, 0, 0, -1000);
        CHECK.row("modes", 19, w -> x.republic(0, w), -1000, 0, 1, 2, 0, 0, 0, -1000);
    }

    private static void people() {
        GluedHour x = Check.with(Check.TOWN);
        CHECK.row("purse", -1, w -> x.person(0, 0, w), -2, 10, -2);
        CHECK.due("purse 1", x.person(0, 1, 0), 4);
        CHECK.row("deeds of 0", 9, w -> x.person(0, 0, w), -2, 0, 2, NONE, NONE, -2);
        CHECK.row("deeds of 1", 10, w -> x.person(0, 1, w), 1, NONE, 0, NONE, -2);
        CHECK.row("lot of 0", 29, w -> x.person(0, 0, w), -2, 1, 1, 1, 1, -2);
        CHECK.row("lot of 1", 30, w -> x.person(0, 1, w), 2, 1, 1, 0, -2);
        CHECK.due("person 2", x.person(0, 2, 0), -2);
        CHECK.due("person -1", x.person(0, -1, 0), -2);
        CHECK.due("republic 1", x.person(1, 0, 0), -2);
    }

    private static void values() {
        GluedHour x = Check.with(Check.TOWN);
        CHECK.row("value of 0", -1, h -> x.value(0, 0, h), NO, 17, 5, 12, 12, NO);
        CHECK.row("value of 1", -1, h -> x.value(0, 1, h), NO, 2, 2, 7, 2, NO);
        CHECK.row("value of all", -1, h -> x.value(0, NONE, h), NO, 19, 7, 19, 14, NO);
        CHECK.due("value of 2", x.value(0, 2, 0), NO);
        CHECK.due("value of -2", x.value(0, -2, 0), NO);
    }

    private static void odds() {
        GluedHour x = Check.with(Check.TOWN);
        CHECK.row("odds", -1, h -> x.odds(0, h, false), NONE, 1, 1, 1, 0, NONE);
        CHECK.row("under", -1, h -> x.odds(0, h, true), NONE, 2, 4, 4, 1, NONE);
        GluedHour y = Check.with("hours 3;person 0;lot 0 0 0;lot 0 1 0;lot 0 2 0;");
        CHECK.row("odds, all weights 0", 0, h -> y.odds(0, h, false), 1, 1, 1, NONE);
        CHECK.row("under, all weights 0", 0, h -> y.odds(0, h, true), 3, 3, 3, NONE);
        GluedHour z = Check.with("person 5;person 5;lot 0 0 9;lot 1 0 0;");
        CHECK.due("of the first of several", z.odds(0, 0, false), 9);
        CHECK.due("of the first of several, under", z.odds(0, 0, true), 16);
    }

    private static void poorest() {
        CHECK.due("the least of several", Check.with("person 3;person 2;person 2;").republic(0, 2), 1);
        CHECK.due("the last", Check.with("person 3;person 2;person 1;").republic(0, 2), 2);
        CHECK.due("nobody", Check.with("").republic(0, 2), NONE);
    }

    private static void means() {
        GluedHour x = Check.with(Check.TOWN);
        CHECK.row("mean", -1, p -> x.mean(0, p, false), NO, 51, 13, NO);
        CHECK.row("mean, under", -1, p -> x.mean(0, p, true), NO, 4, 4, NO);
        CHECK.row("gain of 0", -1, h -> x.gain(0, 0, h, false), NO, 17, -31, -3, -3, NO);
        CHECK.row("gain of 0, under", -1, h -> x.gain(0, 0, h, true), NO, 4, 4, 4, 4, NO);
        CHECK.row("gain of 1", 0, h -> x.gain(0, 1, h, false), -5, -5, 15, -5);
        GluedHour y = Check.with("hours 2;gain 0 2 twice;person 0;person 1;does 0 0 0;does 0 1 0;");
        CHECK.due("gain nothing", y.gain(0, 0, 1, false), 0);
        CHECK.due("gain nothing, under", y.gain(0, 0, 1, true), 1);
        CHECK.due("mean nothing, under", y.mean(0, 1, true), 1);
    }

    private static void wishes() {
        GluedHour x = Check.with(Check.TOWN);
        CHECK.row("wish", -2, p -> x.wish(0, p), NONE, 0, 0, 2, NONE);
        GluedHour y = Check.with("loss 0 1 twice;loss 1 1 undone;person 0;person 0;does 0 0 0;does 1 6 1;");
        CHECK.row("wish of losses", -1, p -> y.wish(0, p), 6, 1, 6);
    }

    private static void buyers() {
        GluedHour x = Check.with(Check.TOWN);
        CHECK.row("buyer", -1, w -> x.buyer(0, w), NO, 0, 15, 4, NO);
        GluedHour one = Check.with("gain 0 5 twice;person 0;does 0 0 0;");
        CHECK.row("one alone", 0, w -> one.buyer(0, w), 0, 0, 1);
        GluedHour like = Check.with("hours 2;gain 0 5 twice;person 0;person 0;person 0;does 1 0 0;does 2 1 0;");
        CHECK.row("the least of several", 0, w -> like.buyer(0, w), 1, 5, 2);
        GluedHour last = Check.with("hours 2;gain 0 5 twice;gain 1 7 twice;person 0;person 0;person 0;does 0 0 0;does 2 1 1;");
        CHECK.row("the last", 0, w -> last.buyer(0, w), 2, 5, 2);
        CHECK.row("nobody", 0, w -> Check.with("").buyer(0, w), NO, NO, NO);
    }

    private static void promises() {
        GluedHour x = Check.with(Check.TOWN);
        CHECK.row("promise of 0", -1, k -> x.promise(0, 0, k, false), NO, 5, -3, 0, 0, 0, 0, NO);
        CHECK.row("promise of 0, under", -1, k -> x.promise(0, 0, k, true), NO, 2, 4, 1, 1, 1, 1, NO);
        CHECK.row("promise of 1", 0, k -> x.promise(0, 1, k, false), 5, -3, 0);
        GluedHour y = Check.with("hours 2;gain 0 5 twice;person 0;person 3;does 0 0 0;does 0 1 1;");
        CHECK.due("no hour without a deed", y.promise(0, 0, 0, false), 0);
        CHECK.due("all hours without", y.promise(0, 1, 0, false), 10);
        CHECK.due("promise of 2", y.promise(0, 2, 0, false), NO);
        CHECK.due("promise of -1", y.promise(0, -1, 0, false), NO);
    }

    private static void twoHours() {
        GluedHour x = Check.with(Check.TOWN);
        CHECK.row("two with 0", -1, b -> x.two(0, 0, 0, b), NO, 22, 10, 17, 17, NO);
        CHECK.row("two with 1", -1, b -> x.two(0, 0, 1, b), NO, 10, 5, 5, 5, NO);
        CHECK.row("two with 2", 0, b -> x.two(0, 0, 2, b), 17, 5, 12, 12);
        CHECK.row("once is once", 0, b -> x.two(0, 1, 0, b), 2, 2, 7, 2);
        CHECK.row("three times", 0, b -> x.two(0, 1, 2, b), 7, 7, 12, 7);
        CHECK.row("first hour not there", 3, a -> x.two(0, 1, a, 0), 2, NO);
        CHECK.due("person 2", x.two(0, 2, 0, 0), NO);
        CHECK.due("person NONE", x.two(0, NONE, 0, 0), NO);
    }

    private static void shifts() {
        GluedHour x = Check.with(Check.TOWN);
        CHECK.row("shift of 0", -1, w -> x.shift(0, 0, w), NO, 1, 3, 29, 2, NO);
        CHECK.row("no shift of 1", -1, w -> x.shift(0, 1, w), NO, NONE, NONE, 13, 4, NO);
        CHECK.due("shift of 2", x.shift(0, 2, 0), NO);
        CHECK.due("shift of NONE", x.shift(0, NONE, 0), NO);
        GluedHour y = Check.with("hours 4;gain 0 5 twice;person 0;does 0 0 0;does 0 1 0;lot 0 2 3;lot 0 3 3;");
        CHECK.row("the first by rows", 0, w -> y.shift(0, 0, w), 0, 2, 25, 2);
        GluedHour z = Check.with("hours 2;gain 0 5 twice;person 0;does 0 1 0;lot 0 0 3;");
        CHECK.row("to hour 0", 0, w -> z.shift(0, 0, w), 1, 0, 35, 4);
    }

    private static void feuds() {
        GluedHour x = Check.with(Check.TOWN);
        CHECK.row("feud", -1, w -> x.feud(0, w), NONE, 0, 1, 12, NONE);
        // Together the two differ by nothing, each by himself by 8.
        GluedHour y = Check.with("hours 3;gain 0 4 twice;loss 1 4 twice;person 0;person 0;does 0 2 0;does 1 2 1;");
        CHECK.row("each by himself", 0, w -> y.feud(0, w), 0, 2, 8);
        GluedHour z = Check.with("hours 4;gain 0 4 twice;loss 1 4 twice;person 0;does 0 2 0;does 0 3 1;");
        CHECK.row("next to one another", 0, w -> z.feud(0, w), 2, 3, 8);
    }

    private static void rulings() {
        GluedHour x = Check.with(Check.TOWN);
        CHECK.row("ruling", -1, w -> x.ruling(0, w), NO, 2, 0, 39, 2, NO);
        GluedHour y = Check.with("hours 2;loss 3 4 twice;person 0;does 0 0 3;");
        CHECK.row("what is undone", 0, w -> y.ruling(0, w), 3, 2, -2, 1);
        GluedHour first = Check.with("hours 2;gain 0 4 undone;gain 1 3 undone;person 0;does 0 0 0;does 0 1 1;");
        CHECK.row("kind 0", 0, w -> first.ruling(0, w), 0, 0, 15, 2);
        GluedHour second = Check.with("hours 2;gain 1 4 undone;person 0;does 0 0 1;");
        CHECK.row("kind 1", 0, w -> second.ruling(0, w), 1, 0, 6, 1);
        GluedHour loss = Check.with("hours 2;loss 0 4 once;person 0;does 0 0 0;");
        CHECK.row("a loss of kind 0", 0, w -> loss.ruling(0, w), 0, 2, -2, 1);
        // As it is: every kind that nobody does changes nothing, so kind 0 comes first.
        GluedHour z = Check.with("hours 2;gain 3 4 twice;person 0;does 0 0 3;");
        CHECK.row("the first by rows", 0, w -> z.ruling(0, w), 0, 0, 6, 1);
    }

    private static void nobody() {
        GluedHour x = Check.with("hours 3;gain 0 5 twice;");
        CHECK.row("value", -1, p -> x.value(0, p, 0), 0, NO);
        CHECK.due("choice", x.wish(0, NONE), 0);
        CHECK.due("wish", x.wish(0, 0), NONE);
        CHECK.row("odds", 0, h -> x.odds(0, h, true), 3, 3, 3, NONE);
        CHECK.row("feud", 0, w -> x.feud(0, w), 0, 1, 0);
        CHECK.row("ruling", 0, w -> x.ruling(0, w), 0, 0, 0, 1);
        CHECK.due("mean", x.mean(0, 0, false), NO);
        CHECK.due("person", x.person(0, 0, 0), -2);
    }

    private static void wrong() {
        GluedHour x = Check.with(Check.TOWN);
        for (int r : new int[] {-1, 1, 2, Integer.MIN_VALUE, Integer.MAX_VALUE}) {
            CHECK.due("republic", x.republic(r, 0), -1000);
            CHECK.due("person", x.person(r, 0, 0), -2);
            CHECK.due("value", x.value(r, 0, 0), NO);
            CHECK.due("value of all", x.value(r, NONE, 0), NO);
            CHECK.due("odds", x.odds(r, 0, true), NONE);
            CHECK.due("mean", x.mean(r, 0, true), NO);
            CHECK.due("gain", x.gain(r, 0, 0, true), NO);
            CHECK.due("wish", x.wish(r, 0), NONE);
            CHECK.due("choice", x.wish(r, NONE), NONE);
            CHECK.due("buyer", x.buyer(r, 0), NO);
            CHECK.due("promise", x.promise(r, 0, 0, true), NO);
            CHECK.due("two", x.two(r, 0, 0, 0), NO);
            CHECK.due("shift", x.shift(r, 0, 0), NO);
            CHECK.due("feud", x.feud(r, 0), NONE);
            CHECK.due("ruling", x.ruling(r, 0), NO);
        }
        CHECK.row("gain of", -1, p -> x.gain(0, p, 0, false), NO, 17, -5, NO);
    }
}
