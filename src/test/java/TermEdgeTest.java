/** Terms 2 to 7: of each sentence that names an edge, a test; its comment quotes the sentence. */
public final class TermEdgeTest {
    private static final Check CHECK = new Check("TermEdgeTest");
    private static final int NONE = GluedHour.NONE;
    private static final int NO = Check.NO;

    public static void main(String[] args) {
        modes();
        poorestOfSeveral();
        oddsOfNoWeights();
        oddsAsTheyAreThen();
        stops();
        likely();
        seeds();
        drawnByWeights();
        wishOfSeveral();
        buyerOfSeveral();
        promiseElseNothing();
        toldTwice();
        shiftAbove();
        shiftOfSeveral();
        feudOfSeveral();
        errandsFromTo();
        noTwoInOne();
        blindOfSeveral();
        regret();
        trueTime();
        notBehind();
        allButTheLast();
        leastHours();
        clock();
        noSights();
        sightsOfDays();
        sightsByOdds();
        sightsOfOneNotThere();
        reign();
        fall();
        doomOfSeveral();
        rulingOfSeveral();
        trustAndTight();
        free();
        CHECK.end();
    }

    private static GluedHour errands(String republic, String errands) {
        return Check.with(republic, null, errands);
    }

    private static GluedHour table(String republic, String table) {
        return Check.with(republic, null, null, table);
    }

    private static GluedHour seen(String republic, String sights) {
        return Check.with(republic, null, null, null, sights);
    }

    /** "that in the STUCK hour by its KIND's MODE: TWICE: twice; ONCE: once; UNDONE: not at all." */
    private static void modes() {
        GluedHour x = Check.with("hours 4;gain 0 10 twice;gain 1 20 once;gain 2 40 undone;person 0;does 0 0 0;does 0 1 1;does 0 2 2;");
        CHECK.row("gains", 0, h -> x.value(0, 0, h), 80, 70, 30, 70);
        GluedHour y = Check.with("hours 4;loss 0 10 twice;loss 1 20 once;loss 2 40 undone;person 0;does 0 3 0;does 0 1 1;does 0 2 2;");
        CHECK.row("losses", 0, h -> y.value(0, 0, h), -70, -70, -30, -80);
    }

    /** "The POOREST: who has least in his PURSE; of several the least." */
    private static void poorestOfSeveral() {
        CHECK.due("all alike", Check.with("person 9;".repeat(6)).republic(0, 2), 0);
        CHECK.due("the last two", Check.with("person 9;person 9;person 9;person 9;person 8;person 8;").republic(0, 2), 4);
        CHECK.due("the last", Check.with("person 9;person 9;person 9;person 9;person 9;person 8;").republic(0, 2), 5);
        // Purses 6 and 0: 3 less and 3 more, so alike behind a day, and below 0 behind three.
        GluedHour x = Check.with("hours 2;gain 0 3 once;loss 1 3 once;person 6;person 0;does 0 0 1;does 1 0 0;", "stuck 0;".repeat(3));
        CHECK.row("behind days", 0, n -> x.purse(0, 0, n, NONE), 1, 0, 0, 0);
        CHECK.row("below 0", 0, n -> x.purse(0, 0, n, 0), 6, 3, 0, -3);
    }

    /** "(all of them 0, or nobody there: each hour 1)". */
    private static void oddsOfNoWeights() {
        GluedHour zero = Check.with("hours 2;person 0;lot 0 0 0;lot 0 1 0;");
        CHECK.row("all of them 0", 0, h -> zero.odds(0, h, true), 2, 2, NONE);
        GluedHour nobody = Check.with("hours 12;");
        CHECK.row("nobody there", 11, h -> nobody.odds(0, h, true), 12, NONE);
        GluedHour one = Check.with("hours 2;person 0;lot 0 0 0;lot 0 1 9;");
        CHECK.row("all but one of them 0", 0, h -> one.odds(0, h, false), 0, 1);
        CHECK.row("all but one of them 0, under", 0, h -> one.odds(0, h, true), 1, 1);
    }

    /** "ODDS of hours on a day: the POOREST's LOT, as it is then". */
    private static void oddsAsTheyAreThen() {
        // Hour 0 brings 2 to the first: he is not the POOREST any more, whose LOT has hour 1 alone.
        GluedHour x = Check.with("hours 2;gain 0 1 twice;person 0;person 1;does 0 0 0;lot 1 0 0;lot 1 1 5;", "stuck 0;stuck 1;stuck 0;");
        CHECK.row("likely", 0, n -> x.likely(0, 0, n, false), 1, 1, 1, 0);
        CHECK.row("likely, under", 0, n -> x.likely(0, 0, n, true), 1, 2, 2, 1);
        CHECK.due("of today", x.odds(0, 0, true), 2);
    }

    /** "an hour that is not there: that DAY can't be, and STOPS it." */
    private static void stops() {
        GluedHour x = Check.with("hours 2;person 5;", "stuck 1;stuck 2;stuck 0;");
        CHECK.row("purse", 0, n -> x.purse(0, 0, n, 0), 5, 5, NO, NO, NO);
        CHECK.row("poorest", 0, n -> x.purse(0, 0, n, NONE), 0, 0, NO, NO, NO);
        CHECK.row("likely", 0, n -> x.likely(0, 0, n, true), 1, 2, NONE, NONE, NONE);
        Check.tell(x, 0, NONE, "hours 3;person 6;");
        CHECK.row("where it is there", 0, n -> x.purse(1, 0, n, 0), 6, 6, 6, 6, NO);
    }

    /** "LIKELY: the ODDS of each of its hours, one by another, a fraction in least terms." */
    private static void likely() {
        GluedHour x = Check.with("hours 2;person 0;lot 0 0 6;lot 0 1 3;", "stuck 0;stuck 1;stuck 0;stuck 0;stuck 0;stuck 0;stuck 0;");
        CHECK.row("above", -1, n -> x.likely(0, 0, n, false), NONE, 1, 2, 2, 4, 8, 16, 32, NONE);
        CHECK.row("under", -1, n -> x.likely(0, 0, n, true), NONE, 1, 3, 9, 27, 81, 243, 729, NONE);
        GluedHour y = Check.with("hours 2;person 0;lot 0 0 0;", "stuck 1;stuck 0;stuck 1;");
        CHECK.row("never", 0, n -> y.likely(0, 0, n, false), 1, 1, 0, 0);
        CHECK.row("never, under", 0, n -> y.likely(0, 0, n, true), 1, 1, 1, 1);
    }

    /** What a seed draws, by longs. */
    private static long next(long x) {
        return (x * 1103515245L + 12345L) & 0xFFFFFFFFL;
    }

    /** "x becomes x * 1103515245 + 12345 (of 32 bits), it is x shifted right by 16 without sign, remainder by n". */
    private static void seeds() {
        for (int seed : new int[] {0, 1, -1, 12345, Integer.MAX_VALUE, Integer.MIN_VALUE}) {
            GluedHour x = Check.with("hours 11;");
            long by = seed & 0xFFFFFFFFL;
            for (int n = 1; n <= 60; n++) {
                by = next(by);
                CHECK.due("seed " + seed + ", day " + n, x.drawn(0, seed, n, 11), (by >> 16) % 11);
            }
        }
    }

    /** "the first hour whose weight, with those of the hours ahead, is above it." */
    private static void drawnByWeights() {
        GluedHour x = Check.with("hours 6;person 0;lot 0 0 0;lot 0 1 3;lot 0 2 0;lot 0 3 1;lot 0 4 2;lot 0 5 0;");
        int[] hours = {1, 1, 1, 3, 4, 4};
        for (int seed = 0; seed < 100; seed++) {
            CHECK.due("seed " + seed, x.drawn(0, seed, 1, 11), hours[(int) ((next(seed) >> 16) % 6)]);
        }
    }

    /** "WISH: the hour by which his VALUE is most; of several the least. CHOICE: ... of several the least." */
    private static void wishOfSeveral() {
        GluedHour x = Check.with("hours 4;gain 0 1 twice;person 0;person 0;person 0;does 0 1 0;does 0 3 0;does 1 2 0;");
        CHECK.row("choice and wishes", -1, p -> x.wish(0, p), 1, 1, 2, 0, NONE);
        GluedHour y = Check.with("hours 3;loss 0 1 twice;person 0;does 0 0 0;does 0 1 0;");
        CHECK.row("the last hour", -1, p -> y.wish(0, p), 2, 2);
    }

    /** "BUYER: the one whose GAIN by his WISH is greatest; of several the least; PRICE: ... of the others (0 without any)." */
    private static void buyerOfSeveral() {
        GluedHour x = Check.with("hours 2;gain 0 2 twice;person 0;person 0;person 0;does 0 0 1;does 1 0 0;does 2 1 0;");
        CHECK.row("of several", 0, w -> x.buyer(0, w), 1, 1, 1);
        GluedHour none = Check.with("hours 2;person 0;person 0;");
        CHECK.row("nobody gains", 0, w -> none.buyer(0, w), 0, 0, 1);
        GluedHour one = Check.with("hours 2;gain 0 2 twice;person 0;does 0 0 0;");
        CHECK.row("without any", 0, w -> one.buyer(0, w), 0, 0, 1);
        GluedHour down = Check.with("hours 2;gain 0 6 twice;gain 1 4 twice;gain 2 2 twice;person 0;person 0;person 0;does 0 0 0;does 1 0 2;"
            + "does 2 0 1;");
        CHECK.row("the next one", 0, w -> down.buyer(0, w), 0, 2, 1);
    }

    /** "he does it in the STUCK hour, in which he has no DEED (else nothing)". */
    private static void promiseElseNothing() {
        GluedHour x = Check.with("hours 3;gain 0 2 twice;gain 1 3 once;gain 2 4 undone;loss 3 5 twice;person 0;person 9;person 9;does 0 0 4;"
            + "does 1 0 4;does 1 1 4;does 1 2 4;lot 0 1 4;");
        // Weights 1 4 1: of the first five of six are without a DEED, of the next none, of the last all.
        CHECK.row("of the first", 0, k -> x.promise(0, 0, k, false), 10, 5, 0, -25, 0, 0, NO);
        CHECK.row("of the first, under", 0, k -> x.promise(0, 0, k, true), 3, 2, 1, 3, 1, 1, NO);
        CHECK.row("of the next", 0, k -> x.promise(0, 1, k, false), 0, 0, 0, 0);
        CHECK.row("of the next, under", 0, k -> x.promise(0, 1, k, true), 1, 1, 1, 1);
        CHECK.row("of the last", 0, k -> x.promise(0, 2, k, false), 4, 3, 0, -10);
    }

    /** "both unlike: each by itself; one told twice: it is lived three times (TWICE counts three times)." */
    private static void toldTwice() {
        GluedHour x = Check.with("hours 4;gain 0 10 twice;gain 1 20 once;gain 2 40 undone;person 0;does 0 0 0;does 0 1 1;does 0 2 2;");
        CHECK.row("one told twice", 0, h -> x.two(0, 0, h, h), 90, 70, 30, 70, NO);
        CHECK.row("with hour 0", 0, h -> x.two(0, 0, 0, h), 90, 80, 40, 80, NO);
        CHECK.row("hour 0 last", 0, h -> x.two(0, 0, h, 0), 90, 80, 40, 80, NO);
        CHECK.row("with hour 2", 0, h -> x.two(0, 0, 2, h), 40, 30, 30, 30, NO);
        GluedHour y = Check.with("hours 2;loss 0 10 twice;person 0;does 0 0 0;does 0 1 0;");
        CHECK.row("a loss three times", 0, h -> y.two(0, 0, 0, h), -40, -40);
    }

    /** "one DEED goes to another hour, without a DEED, by which his MEAN is most, above what it is". */
    private static void shiftAbove() {
        GluedHour like = Check.with("hours 3;gain 0 5 twice;person 0;does 0 0 0;");
        CHECK.row("no better", 0, w -> like.shift(0, 0, w), NONE, NONE, 20, 3);
        GluedHour full = Check.with("hours 2;gain 0 5 twice;gain 1 4 twice;person 0;does 0 0 0;does 0 1 1;lot 0 1 3;");
        CHECK.row("no hour without", 0, w -> full.shift(0, 0, w), NONE, NONE, 53, 4);
        GluedHour idle = Check.with("hours 2;gain 0 5 twice;person 0;lot 0 1 3;");
        CHECK.row("no deed", 0, w -> idle.shift(0, 0, w), NONE, NONE, 0, 1);
        GluedHour once = Check.with("hours 2;gain 0 5 once;person 0;does 0 0 0;lot 0 1 3;");
        CHECK.row("once is once", 0, w -> once.shift(0, 0, w), NONE, NONE, 5, 1);
        GluedHour undone = Check.with("hours 3;gain 0 6 undone;person 0;does 0 0 0;lot 0 0 4;");
        CHECK.row("away from being undone", 0, w -> undone.shift(0, 0, w), 0, 1, 5, 1);
        GluedHour loss = Check.with("hours 3;loss 0 6 twice;person 0;does 0 0 0;lot 0 0 4;");
        CHECK.row("away from losing twice", 0, w -> loss.shift(0, 0, w), 0, 1, -7, 1);
        GluedHour last = Check.with("hours 12;gain 0 6 twice;person 0;does 0 0 0;lot 0 11 9;");
        CHECK.row("to the last hour", 0, w -> last.shift(0, 0, w), 0, 11, 87, 10);
    }

    /** "SHIFT: ... from which hour, to which; of several the first by rows." */
    private static void shiftOfSeveral() {
        GluedHour x = Check.with("hours 4;gain 0 6 twice;person 0;does 0 1 0;does 0 2 0;lot 0 0 2;lot 0 3 2;");
        CHECK.row("of several", 0, w -> x.shift(0, 0, w), 1, 0, 15, 1);
        GluedHour y = Check.with("hours 4;gain 0 6 twice;gain 1 7 twice;person 0;does 0 1 0;does 0 2 1;lot 0 0 2;lot 0 3 2;");
        CHECK.row("more goes ahead of first", 0, w -> y.shift(0, 0, w), 2, 0, 49, 3);
    }

    /** "FEUD: the two hours, a below b, ... whose VALUES differ most (each by itself, together); of several the first by rows." */
    private static void feudOfSeveral() {
        GluedHour like = Check.with("hours 2;gain 0 4 twice;person 0;does 0 0 0;does 0 1 0;");
        CHECK.row("none differ", 0, w -> like.feud(0, w), 0, 1, 0);
        GluedHour x = Check.with("hours 4;gain 0 4 twice;person 0;does 0 2 0;does 0 3 0;");
        CHECK.row("of several", 0, w -> x.feud(0, w), 0, 2, 4);
        GluedHour y = Check.with("hours 4;gain 0 4 twice;loss 1 3 twice;person 0;person 0;does 0 1 0;does 1 3 1;");
        CHECK.row("each by itself", 0, w -> y.feud(0, w), 1, 3, 7);
    }

    /** "each at an hour from .. to": both of them may be, none ahead of the one or behind the other. */
    private static void errandsFromTo() {
        for (int h = 0; h < 6; h++) {
            GluedHour x = errands("hours 6;gain 0 5 twice;person 0;lot 0 " + h + " 9;", "errand 0 2 4;");
            CHECK.due("weight at " + h, x.plan(0, 0, 10), h >= 2 && h <= 4 ? h : 2);
        }
        CHECK.due("the last hour", errands("hours 6;", "errand 0 5 5;").plan(0, 0, 10), 5);
        CHECK.due("an hour that is not there", errands("hours 6;", "errand 0 6 6;").plan(0, 0, 10), NO);
        CHECK.due("an hour that is there", errands("hours 6;", "errand 0 5 11;").plan(0, 0, 10), 5);
    }

    /** "no two in one"; "they can't be done (all in unlike hours)". */
    private static void noTwoInOne() {
        CHECK.due("two in two", errands("", "errand 0 3 4;errand 0 3 4;").plan(0, 0, 11), 4);
        CHECK.due("two in one", errands("", "errand 0 3 3;errand 1 3 3;").plan(0, 0, 10), NO);
        CHECK.due("three in two", errands("", "errand 0 3 4;errand 1 3 4;errand 2 3 4;").plan(0, 0, 0), NO);
        CHECK.due("three in two hours of all", errands("hours 2;", "errand 0 0 11;".repeat(3)).plan(0, 0, 1), NO);
        GluedHour x = errands("hours 2;gain 0 3 twice;gain 1 5 twice;", "errand 0 0 1;errand 1 0 1;");
        CHECK.row("as many as hours", 0, w -> x.plan(0, 0, w), 12, 1, 13, 1, 1, 1, 0);
    }

    /** "BLIND: hours chosen ... so that what is to be expected is most; of several the first by rows." */
    private static void blindOfSeveral() {
        GluedHour x = errands("hours 12;gain 0 5 once;", "errand 0 0 11;".repeat(6));
        CHECK.row("all alike", 10, w -> x.plan(0, 0, w), 0, 1, 2, 3, 4, 5, NO);
        GluedHour y = errands("hours 4;gain 0 5 twice;person 0;lot 0 2 2;lot 0 3 2;", "errand 0 0 3;errand 0 0 3;");
        CHECK.row("the best of them alike", 10, w -> y.plan(0, 0, w), 2, 3, NO);
        GluedHour z = errands("hours 3;gain 0 5 once;", "errand 0 0 2;errand 0 1 1;errand 0 0 0;");
        CHECK.row("where others must be", 10, w -> z.plan(0, 0, w), 2, 1, 0);
    }

    /** "REGRET: the STUCK hour (of ODDS above 0) by which the best hours then are worth most more, above 0; of several the least." */
    private static void regret() {
        CHECK.due("nothing better", errands("hours 2;gain 0 5 twice;", "errand 0 1 1;").plan(0, 0, 6), NONE);
        CHECK.due("nothing at all", errands("hours 2;gain 0 0 twice;", "errand 0 0 1;").plan(0, 0, 6), NONE);
        CHECK.due("of several", errands("hours 5;gain 0 5 twice;", "errand 0 1 4;").plan(0, 0, 6), 2);
        CHECK.due("most", errands("hours 5;gain 0 5 twice;gain 1 9 twice;", "errand 0 0 1;errand 1 2 3;").plan(0, 0, 6), 3);
        GluedHour x = errands("hours 3;gain 0 9 twice;gain 1 2 twice;person 0;lot 0 0 0;", "errand 0 0 1;errand 1 1 2;");
        CHECK.row("no odds", 0, w -> x.plan(0, 0, w), 33, 2, 33, 2, 0, 1, NONE);
        GluedHour sure = errands("hours 3;gain 0 9 twice;person 0;lot 0 0 0;lot 0 1 0;", "errand 0 0 2;");
        CHECK.row("one hour alone", 0, w -> sure.plan(0, 0, w), 18, 1, 18, 1, 0, 1, NONE);
    }

    /** "an hour ahead of the STUCK one, or that one the first time, is at TRUE its number, one behind it 1 more." */
    private static void trueTime() {
        GluedHour x = table("hours 3;", "train 0 2;train 1 1;");
        CHECK.row("from the stuck one, to it", 0, h -> x.holds(0, 0, h), 1, 0, 0, -1000);
        GluedHour y = table("hours 4;", "train 1 2;train 2 1;");
        CHECK.row("around it", 0, h -> y.holds(0, 0, h), 0, 1, 0, 0, -1000);
    }

    /** "A TABLE HOLDS, if each TRAIN comes not behind the hour in which the next one leaves"; "SLACK (below 0, if it does not HOLD)". */
    private static void notBehind() {
        GluedHour at = table("hours 3;", "train 0 2;train 2 9;");
        CHECK.row("in that hour", -1, h -> at.holds(0, 0, h), 0, 1, 1, 1);
        GluedHour behind = table("hours 3;", "train 0 3;train 2 9;");
        CHECK.row("behind it", -1, h -> behind.holds(0, 0, h), -1, 1, 1, 0);
        GluedHour ahead = table("hours 3;", "train 0 1;train 2 9;");
        CHECK.row("ahead of it", -1, h -> ahead.holds(0, 0, h), 1, 1, 1, 1);
        GluedHour second = table("hours 3;", "train 0 1;train 1 1;train 1 1;");
        CHECK.row("each of them", -1, h -> second.holds(0, 0, h), -1, 0, 0, 0);
    }

    /** "all TRAINS but the last"; "(1000 with less than two TRAINS)". */
    private static void allButTheLast() {
        CHECK.due("the last one's ride", table("hours 3;", "train 0 1;train 5 9;").holds(0, 0, NONE), 5);
        CHECK.due("an hour less", table("hours 12;", "train 0 1;train 5 9;").holds(0, 0, NONE), 4);
        // From hour 0 to the hour behind the last one every STUCK hour is passed.
        CHECK.due("hours that may be stuck alone", table("hours 3;", "train 0 1;train 3 1;").holds(0, 0, NONE), 3);
        CHECK.due("one", table("", "train 11 9;").holds(0, 0, NONE), 1000);
        CHECK.due("none", table("", "").holds(0, 0, NONE), 1000);
        CHECK.due("one always holds", table("", "train 11 9;").holds(0, 0, 7), 1);
        CHECK.due("least of all", table("hours 12;", "train 11 9;train 0 1;").holds(0, 0, NONE), -21);
        CHECK.due("most of all", table("hours 2;", "train 0 1;train 11 1;").holds(0, 0, NONE), 11);
    }

    /** "LEAST: the first TRAIN at its hour, each further one at the least hour by which it HOLDS whatever is STUCK (hours may be above 11)." */
    private static void leastHours() {
        GluedHour early = table("hours 12;", "train 3 1;train 11 1;train 0 1;");
        CHECK.row("earlier than told, or later", 0, k -> early.clock(0, 0, k, NONE), 3, 4, 5, NONE);
        GluedHour late = table("hours 12;", "train 11 9;".repeat(8));
        CHECK.row("above 11", 0, k -> late.clock(0, 0, k, NONE), 11, 20, 29, 38, 47, 56, 65, 74, NONE);
        // From hour 0 to hour 8, behind all that may be stuck, it takes 9 TRUE hours.
        GluedHour all = table("", "train 0 9;train 0 9;train 0 1;");
        CHECK.row("behind all hours", 0, k -> all.clock(0, 0, k, NONE), 0, 8, 17);
        GluedHour most = table("hours 9;", "train 0 9;train 0 9;train 0 1;");
        CHECK.row("one more hour", 0, k -> most.clock(0, 0, k, NONE), 0, 9, 18);
    }

    /** "CLOCK: (the STUCK one the second time, too, is that hour; behind the last hour they go on)". */
    private static void clock() {
        GluedHour x = table("hours 3;", "train 0 1;train 1 1;train 1 5;train 11 9;");
        CHECK.row("the second time", 0, h -> x.clock(0, 0, 0, h), 0, 1, 1);
        CHECK.row("from hour 1", 0, h -> x.clock(0, 0, 1, h), 2, 1, 2);
        CHECK.row("behind the last hour", 0, h -> x.clock(0, 0, 2, h), 6, 5, 5);
        CHECK.row("far behind", 0, h -> x.clock(0, 0, 3, h), 20, 20, 20);
    }

    /** "of as many DAYS as the most that SIGHTS tell of (none: 0 DAYS, one row)". */
    private static void noSights() {
        CHECK.due("somebody there", seen("person 0;", "").fits(0, 0, 0), 1);
        CHECK.due("nobody there", seen("", "").fits(0, 0, 0), 1);
        GluedHour x = seen("hours 2;person 0;", "");
        CHECK.row("no day", 10, w -> x.fits(0, 0, w), -2, -2, -2, -2);
        CHECK.row("no day's hours", 20, w -> x.fits(0, 0, w), -2, -2, -2, -2);
    }

    /** "rows of STUCK hours, of as many DAYS as the most that SIGHTS tell of, by which all PURSES are as seen". */
    private static void sightsOfDays() {
        String one = "hours 2;gain 0 1 twice;person 0;does 0 1 0;";
        for (int days = 1; days <= 3; days++) {
            GluedHour x = seen(one, "has " + days + " 0 " + days + ";");
            CHECK.due("rows of hour 0 alone", x.fits(0, 0, 0), 1);
            CHECK.due("the last day", x.fits(0, 0, 9 + days), 0);
            CHECK.due("no day behind it", x.fits(0, 0, 10 + days), -2);
            CHECK.due("the last day's hours", x.fits(0, 0, 19 + days), 1);
            CHECK.due("no hours behind it", x.fits(0, 0, 20 + days), -2);
        }
        GluedHour y = seen(one, "has 3 0 5;has 1 0 2;");
        CHECK.due("rows", y.fits(0, 0, 0), 2);
        CHECK.row("sure", 10, w -> y.fits(0, 0, w), 1, NONE, NONE, -2);
        CHECK.row("maybe", 20, w -> y.fits(0, 0, w), 2, 3, 3, -2);
        GluedHour z = seen(one, "has 3 0 5;has 1 0 2;has 2 0 2;");
        CHECK.due("never so", z.fits(0, 0, 0), 0);
        CHECK.row("sure of none", 10, w -> z.fits(0, 0, w), NONE, NONE, NONE, -2);
        CHECK.row("none may be", 20, w -> z.fits(0, 0, w), 0, 0, 0, -2);
    }

    /** "each of ODDS above 0 on its DAY". */
    private static void sightsByOdds() {
        GluedHour x = seen("hours 3;person 0;lot 0 1 0;", "has 2 0 0;");
        CHECK.due("rows", x.fits(0, 0, 0), 4);
        CHECK.row("maybe", 20, w -> x.fits(0, 0, w), 5, 5, -2);
        // Behind hour 0 the other is the POOREST, and his LOT has hour 2 alone; else it is 0 or 1.
        GluedHour y = seen("hours 3;gain 0 1 twice;gain 1 1 undone;person 0;person 2;does 0 0 0;does 0 1 1;lot 0 2 0;lot 1 0 0;lot 1 1 0;",
            "has 2 1 2;");
        CHECK.due("rows then", y.fits(0, 0, 0), 3);
        CHECK.row("maybe then", 20, w -> y.fits(0, 0, w), 3, 7);
        GluedHour zero = seen("hours 2;person 0;lot 0 0 0;lot 0 1 0;", "has 1 0 0;");
        CHECK.due("all weights 0", zero.fits(0, 0, 0), 2);
    }

    /** "(one who is not there: no row is so)". */
    private static void sightsOfOneNotThere() {
        CHECK.due("the next one", seen("person 0;", "has 1 1 0;").fits(0, 0, 0), 0);
        CHECK.due("the last one", seen("person 0;".repeat(5), "has 1 5 0;").fits(0, 0, 0), 0);
        CHECK.due("on a later day", seen("person 0;", "has 1 0 0;has 3 5 0;").fits(0, 0, 0), 0);
        CHECK.due("nobody there", seen("", "has 1 0 0;").fits(0, 0, 0), 0);
        CHECK.due("he is there", seen("hours 12;" + "person 0;".repeat(6), "has 1 5 0;").fits(0, 0, 0), 12);
    }

    /** "the POOREST makes that hour STUCK by which his own VALUE is most; of several the least (nobody there: hour 0)". */
    private static void reign() {
        GluedHour x = Check.with("hours 4;gain 0 1 twice;person 0;person 9;does 0 1 0;does 0 3 0;does 1 0 0;");
        CHECK.row("of several", 100, w -> x.reign(0, 2, w), 1, 1, NO);
        CHECK.due("all alike", Check.with("hours 4;person 0;").reign(0, 1, 100), 0);
        GluedHour nobody = Check.with("hours 4;");
        CHECK.row("nobody there", 158, w -> nobody.reign(0, 60, w), 0, 0, NO);
    }

    /** "FALL: the first day that another one is POOREST behind than ahead of it." */
    private static void fall() {
        // The second gets 1 a day, the first 4: alike behind day 1, when the first is the least of them still.
        GluedHour x = Check.with("hours 2;gain 0 4 once;gain 1 1 once;person 0;person 6;does 0 0 0;does 1 0 1;");
        CHECK.row("poorest", 0, n -> x.reign(0, n, 10), 0, 0, 0, 1, 1);
        CHECK.row("fall", 0, n -> x.reign(0, n, 11), NONE, NONE, NONE, 2, 2);
        CHECK.due("fall of sixty", x.reign(0, 60, 11), 2);
        GluedHour at = Check.with("hours 2;gain 0 4 once;person 0;person 1;does 0 0 0;");
        CHECK.row("at once", 0, n -> at.reign(0, n, 11), NONE, 0, 0);
        // Each gives way to the other each day: the first such day counts.
        GluedHour turns = Check.with("hours 2;gain 0 1 twice;person 0;person 1;does 0 0 0;does 1 1 0;");
        CHECK.row("poorest by turns", 0, n -> turns.reign(0, n, 10), 0, 0, 1, 0);
        CHECK.row("the first fall", 0, n -> turns.reign(0, n, 11), NONE, NONE, 1, 1);
        CHECK.due("nobody falls", Check.with("").reign(0, 60, 11), NONE);
    }

    /** "DOOM: how likely he is the POOREST then": "of several the least", so the others are not. */
    private static void doomOfSeveral() {
        GluedHour x = Check.with("hours 2;person 5;person 5;person 5;");
        for (int n = 0; n <= 2; n++) {
            int days = n;
            CHECK.row("doom", 0, p -> x.doom(0, p, days, false), 1, 0, 0, NONE);
            CHECK.row("doom, under", 0, p -> x.doom(0, p, days, true), 1, 1, 1, NONE);
        }
        // One of three hours brings him 2: alike he is the least still, above he is not.
        GluedHour y = Check.with("hours 3;gain 0 2 undone;loss 1 0 once;person 0;person 2;does 0 0 0;");
        CHECK.row("doom by days", 0, n -> y.doom(0, 0, n, false), 1, 1, 5, NONE);
        CHECK.row("doom by days, under", 0, n -> y.doom(0, 0, n, true), 1, 1, 9, NONE);
        CHECK.row("the other's", 0, n -> y.doom(0, 1, n, false), 0, 0, 4, NONE);
        CHECK.row("hope", 0, n -> y.hope(0, 0, n, false), 0, 4, 8, NO);
        CHECK.row("hope, under", 0, n -> y.hope(0, 0, n, true), 1, 3, 3, NO);
    }

    /** "RULING: ... of several the first by rows (KIND, then MODE)." */
    private static void rulingOfSeveral() {
        GluedHour kinds = Check.with("hours 2;gain 2 4 once;gain 4 4 once;person 0;does 0 0 2;does 0 1 4;");
        CHECK.row("of kinds", 0, w -> kinds.ruling(0, w), 2, 0, 10, 1);
        GluedHour modes = Check.with("hours 2;loss 5 4 twice;person 0;does 0 0 5;");
        CHECK.row("the last kind and mode", 0, w -> modes.ruling(0, w), 5, 2, -2, 1);
        GluedHour as = Check.with("hours 2;gain 5 4 twice;person 0;does 0 0 5;");
        CHECK.row("as it is", 0, w -> as.ruling(0, w), 0, 0, 6, 1);
        GluedHour zero = Check.with("hours 2;gain 5 4 undone;person 0;does 0 1 5;lot 0 1 0;");
        CHECK.row("of no odds", 0, w -> zero.ruling(0, w), 0, 0, 4, 1);
        // Both worse otherwise: kind 0 as it is, with its own MODE, which is its last.
        GluedHour undone = Check.with("hours 2;loss 0 4 undone;person 0;does 0 0 0;does 0 1 0;gain 1 1 twice;");
        CHECK.row("its own mode", 0, w -> undone.ruling(0, w), 0, 2, -4, 1);
    }

    /** "TRUST: how likely it HOLDS today; TIGHT: the TRAIN, but the last, by which SLACK is least; of several the least." */
    private static void trustAndTight() {
        GluedHour x = table("hours 4;person 0;lot 0 0 3;lot 0 1 0;", "train 0 2;train 1 1;");
        CHECK.row("by hour 0 alone", 0, u -> x.trust(0, 0, u == 1), 3, 5);
        GluedHour never = table("hours 4;person 0;lot 0 0 0;", "train 0 2;train 1 1;");
        CHECK.row("by an hour of no odds", 0, u -> never.trust(0, 0, u == 1), 0, 1);
        GluedHour always = table("hours 4;", "");
        CHECK.row("no trains", 0, u -> always.trust(0, 0, u == 1), 1, 1);
        CHECK.due("of several", table("", "train 0 1;train 2 1;train 4 1;train 6 9;").tight(0, 0), 0);
        CHECK.due("the last but one", table("", "train 0 1;train 2 1;train 4 2;train 6 9;").tight(0, 0), 2);
        CHECK.due("of two", table("", "train 0 1;train 2 9;").tight(0, 0), 0);
        // By the STUCK hour: 0 to 2 is 2 or 3, 8 to 10 with 8 hours 2 alone: the least of each counts.
        CHECK.due("by any stuck hour", table("", "train 0 1;train 3 1;train 5 1;train 8 1;").tight(0, 0), 1);
    }

    /** "FREE: what BLIND was worth, if each could be done in any hour (from 0 to the last one), less what it is." */
    private static void free() {
        GluedHour x = errands("hours 12;gain 0 5 twice;person 0;lot 0 0 3;lot 0 11 9;", "errand 0 1 10;errand 0 5 5;");
        CHECK.due("hours 0 and 11", x.free(0, 0, false), 25);
        CHECK.due("hours 0 and 11, under", x.free(0, 0, true), 11);
        GluedHour full = errands("hours 2;gain 0 5 twice;", "errand 0 0 11;errand 0 0 1;");
        CHECK.due("no freer", full.free(0, 0, false), 0);
        CHECK.due("no freer, under", full.free(0, 0, true), 1);
        CHECK.due("free alone could be done", errands("hours 2;", "errand 0 0 0;errand 0 0 0;").free(0, 0, false), NO);
        CHECK.due("not even free", errands("hours 2;", "errand 0 0 1;".repeat(3)).free(0, 0, false), NO);
    }
}
