import java.util.function.IntToLongFunction;

/** Promises 1 to 38, one after another: of each sentence that names an edge, or a call refused, a test; its comment quotes the sentence. */
public final class PromiseEdgeTest {
    private static final Check CHECK = new Check("PromiseEdgeTest");
    private static final int NONE = GluedHour.NONE;
    private static final int NO = Check.NO;
    private static final int LEAST = Integer.MIN_VALUE;
    private static final int MOST = Integer.MAX_VALUE;
    /** Numbers of what is not there: ahead of what is, behind it, far away, and where sums of numbers go around. */
    private static final int[] OTHERS = {-2, 1, 2, 3, 4, 6, 8, 12, 14, 61, 100, 600, LEAST, LEAST + 1, LEAST + 10, LEAST + 20, MOST - 20, MOST - 1, MOST};
    /** The most of all: six people, twelve hours; weights 0, ten times 1, and 9. */
    private static final String MOST_OF_ALL = "hours 12;gain 5 99 twice;loss 4 99 twice;" + "person 999;".repeat(5)
        + "person 0;does 0 0 4;does 5 11 5;lot 5 0 0;lot 5 11 9;";

    public static void main(String[] args) {
        newObject();
        feed();
        end();
        text();
        textOfNoPlace();
        fault();
        republic();
        person();
        value();
        odds();
        day();
        purse();
        likely();
        drawn();
        mean();
        gain();
        wish();
        buyer();
        promise();
        two();
        shift();
        feud();
        errand();
        plan();
        train();
        holds();
        clock();
        sight();
        fits();
        reign();
        hope();
        doom();
        ruling();
        trust();
        tight();
        free();
        count();
        image();
        again();
        mostOfAll();
        mostOfDays();
        fewerBehindMore();
        asking();
        CHECK.end();
    }

    /** One of each sort; the WEEK's last DAY can't be. */
    private static GluedHour full() {
        return Check.with(Check.TOWN, "stuck 2;stuck 0;stuck 4;", "errand 0 0 2;errand 2 0 1;", "train 0 2;train 2 1;", "has 1 0 22;");
    }

    /** Where so many are there, all other numbers, and NONE unless it means something, answer the same. */
    private static void none(String call, int there, IntToLongFunction of, long want, boolean alsoNone) {
        for (int k : OTHERS) {
            if (k < 0 || k >= there) {
                CHECK.due(call + " at " + k, of.applyAsLong(k), want);
            }
        }
        if (alsoNone) {
            CHECK.due(call + " at NONE", of.applyAsLong(NONE), want);
        }
    }

    /** Whats that stand behind another and ahead of the next, and far ones. */
    private static void others(String call, IntToLongFunction of, long want, int... whats) {
        for (int what : whats) {
            CHECK.due(call + ", what " + what, of.applyAsLong(what), want);
        }
        for (int what : new int[] {LEAST, LEAST + 1, LEAST + 99, -1000, -10, -2, -1, 1000, MOST - 99, MOST}) {
            CHECK.due(call + ", what " + what, of.applyAsLong(what), want);
        }
    }

    /** 1: "No REPUBLICS, WEEKS, ERRANDS, TABLES, SIGHTS; no images." */
    private static void newObject() {
        GluedHour x = new GluedHour();
        CHECK.row("count", 0, x::count, 0, 0, 0, 0, 0);
        CHECK.row("again", 0, k -> x.again(k) ? 1 : 0, 0, 0, 0);
        CHECK.row("fault", 0, x::fault, 0, NONE);
        CHECK.due("no tape", x.end(1), NONE);
        CHECK.due("republic", x.republic(0, 0), -1000);
        CHECK.due("person", x.person(0, 0, 0), -2);
        CHECK.due("value", x.value(0, NONE, 0), NO);
        CHECK.due("odds", x.odds(0, 0, false), NONE);
        CHECK.due("day", x.day(0, NONE), -2);
        CHECK.due("purse", x.purse(0, 0, 0, NONE), NO);
        CHECK.due("likely", x.likely(0, 0, 0, false), NONE);
        CHECK.due("drawn", x.drawn(0, 0, 0, 10), NO);
        CHECK.due("mean", x.mean(0, 0, false), NO);
        CHECK.due("gain", x.gain(0, 0, 0, false), NO);
        CHECK.due("wish", x.wish(0, NONE), NONE);
        CHECK.due("buyer", x.buyer(0, 0), NO);
        CHECK.due("promise", x.promise(0, 0, 0, false), NO);
        CHECK.due("two", x.two(0, 0, 0, 0), NO);
        CHECK.due("shift", x.shift(0, 0, 0), NO);
        CHECK.due("feud", x.feud(0, 0), NONE);
        CHECK.due("errand", x.errand(0, NONE, 0), -2);
        CHECK.due("plan", x.plan(0, 0, 0), NO);
        CHECK.due("train", x.train(0, NONE, 0), -2);
        CHECK.due("holds", x.holds(0, 0, NONE), -1000);
        CHECK.due("clock", x.clock(0, 0, 0, NONE), NONE);
        CHECK.due("sight", x.sight(0, NONE, 0), NO);
        CHECK.due("fits", x.fits(0, 0, 0), -2);
        CHECK.due("reign", x.reign(0, 0, 10), NO);
        CHECK.due("hope", x.hope(0, 0, 0, false), NO);
        CHECK.due("doom", x.doom(0, 0, 0, false), NONE);
        CHECK.due("ruling", x.ruling(0, 0), NO);
        CHECK.due("trust", x.trust(0, 0, false), NONE);
        CHECK.due("tight", x.tight(0, 0), NONE);
        CHECK.due("free", x.free(0, 0, false), NO);
    }

    /** 2: "twenty bytes come behind it, of each number the highest first"; "NONE, and nothing comes, if there would be more than 600." */
    private static void feed() {
        GluedHour x = new GluedHour();
        for (int n = 20; n <= 600; n += 20) {
            CHECK.due("feed", x.feed(0x20202020, 0x20202020, 0x20202020, 0x20202020, 0x20202020), n);
        }
        CHECK.due("more than 600", x.feed(0, 0, 0, 0, 0), NONE);
        CHECK.due("nothing came", x.end(600), 600);
        CHECK.due("blanks alone", x.text(1, NONE), 0);
        Check.tape(x, " ".repeat(581));
        CHECK.due("601 bytes", x.feed(0, 0, 0, 0, 0), NONE);
        CHECK.due("none of them came", x.end(582), NONE);
        CHECK.due("blanks as before", x.text(1, NONE), 1);
        Check.tape(x, " ".repeat(580));
        // " stuck 11; stuck 7 ;"
        CHECK.due("600 bytes", x.feed(0x20737475, 0x636b2031, 0x313b2073, 0x7475636b, 0x2037203b), 600);
        CHECK.due("in their order", x.text(1, 0), 0);
        CHECK.row("days", -1, k -> x.day(0, k), 2, 11, 7, -2);
        x.feed(0x2020ff20, -1, LEAST, MOST, 0);
        CHECK.due("bytes of 255", x.text(1, 0), NONE);
        CHECK.row("are no blanks", 0, x::fault, 1, 2);
    }

    /** 3: "The tape has its first n bytes alone: n. NONE if it has not so many, or n is below 0." */
    private static void end() {
        GluedHour x = new GluedHour();
        CHECK.due("none of none", x.end(0), 0);
        CHECK.due("one of none", x.end(1), NONE);
        Check.tape(x, "stuck 1;stuck 2;????");
        CHECK.due("one too many", x.end(21), NONE);
        CHECK.due("below 0", x.end(-1), NONE);
        CHECK.due("far below", x.end(LEAST), NONE);
        CHECK.due("far above", x.end(MOST), NONE);
        CHECK.due("all of it is there", x.end(20), 20);
        CHECK.due("16 of it", x.end(16), 16);
        CHECK.due("those behind are gone", x.end(17), NONE);
        CHECK.due("what comes stands right behind", x.feed(0x73747563, 0x6b20333b, 0x20202020, 0x20202020, 0x20202020), 36);
        CHECK.due("text", x.text(1, NONE), 0);
        CHECK.row("days", -1, k -> x.day(0, k), 3, 1, 2, 3, -2);
        Check.tape(x, "stuck 4;");
        CHECK.due("none of it", x.end(0), 0);
        CHECK.due("an empty text", x.text(1, 0), 0);
        CHECK.due("no days", x.day(0, NONE), 0);
    }

    /** 4: "a further one (at NONE), or in the place of one: its number. NONE: a FAULT", "The tape is taken (and is empty then)". */
    private static void text() {
        GluedHour x = new GluedHour();
        CHECK.due("the first", Check.tell(x, 1, NONE, "stuck 1;"), 0);
        CHECK.due("the tape is empty then", x.end(1), NONE);
        CHECK.due("a fault of a further one", Check.tell(x, 1, NONE, "stuck 12;"), NONE);
        CHECK.due("the tape is empty behind a fault", x.end(1), NONE);
        CHECK.due("it is none", x.count(1), 1);
        CHECK.due("the second", Check.tell(x, 1, NONE, "stuck 2;"), 1);
        CHECK.due("in the place of 0", Check.tell(x, 1, 0, "stuck 3;stuck 4;"), 0);
        CHECK.due("in the place of 1", Check.tell(x, 1, 1, ""), 1);
        CHECK.due("a fault in the place of 0", Check.tell(x, 1, 0, "stuck 5;stuck"), NONE);
        CHECK.due("days of 0", x.day(0, NONE), 2);
        CHECK.row("they are as before", 0, k -> x.day(0, k), 3, 4, -2);
        CHECK.due("days of 1", x.day(1, NONE), 0);
        CHECK.row("count", 0, x::count, 0, 2, 0, 0, 0);
    }

    /** 4: "-2: there is none such, there are as many as may be, or no such sort (no text is read then, FAULT 0)." */
    private static void textOfNoPlace() {
        for (int sort = 0; sort < 5; sort++) {
            GluedHour x = new GluedHour();
            refused(x, sort, 0);
            CHECK.due("the first", x.text(sort, NONE), 0);
            refused(x, sort, 1);
            refused(x, sort, -2);
            refused(x, sort, LEAST);
            refused(x, sort, MOST);
            CHECK.due("the second", x.text(sort, NONE), 1);
            refused(x, sort, NONE);
            refused(x, sort, 2);
            CHECK.due("there are two", x.count(sort), 2);
        }
        GluedHour y = Check.with("", "", "", "", "");
        for (int sort : new int[] {LEAST, -2, -1, 5, 6, 10, MOST}) {
            refused(y, sort, NONE);
            refused(y, sort, 0);
            refused(y, sort, 1);
        }
    }

    private static void refused(GluedHour x, int sort, int at) {
        String call = "text(" + sort + ", " + at + ")";
        Check.tell(x, 1, 9, "");
        x.feed(0, 0, 0, 0, 0);
        CHECK.due(call, x.text(sort, at), -2);
        CHECK.row(call + ", no text is read", 0, x::fault, 0, NONE);
        CHECK.due(call + ", the tape is empty then", x.end(1), NONE);
    }

    /** 5: "Of the latest text(): the FAULT, 0 without, 1: its place, NONE without. NONE for another what." */
    private static void fault() {
        GluedHour x = new GluedHour();
        CHECK.row("of no text", 0, x::fault, 0, NONE);
        others("of no text", x::fault, NONE, 2, 3);
        Check.tell(x, 0, NONE, "hours 1;");
        CHECK.row("of a fault", 0, x::fault, 2, 6);
        others("of a fault", x::fault, NONE, 2, 3);
        x.feed(0, 0, 0, 0, 0);
        x.end(0);
        x.republic(0, 0);
        CHECK.row("of the latest text still", 0, x::fault, 2, 6);
        Check.tell(x, 1, NONE, "?");
        CHECK.row("at the first byte", 0, x::fault, 1, 0);
        Check.tell(x, 1, NONE, "");
        CHECK.row("of a text without", 0, x::fault, 0, NONE);
        Check.tell(x, 0, NONE, "lot 0 0 0;");
        CHECK.row("of an end", 0, x::fault, 4, 10);
        x.text(0, 5);
        CHECK.row("of a text not read", 0, x::fault, 0, NONE);
    }

    /** 6: "2: the POOREST (NONE: nobody). -1000: there is none such, or for another what." */
    private static void republic() {
        GluedHour x = full();
        none("republic", 1, r -> x.republic(r, 0), -1000, true);
        others("republic", w -> x.republic(0, w), -1000, 3, 4, 9, 16, 17, 18, 19, 26, 27, 30, 100);
        CHECK.row("the last kinds", 15, w -> x.republic(0, w), 0, -1000);
        CHECK.row("the first modes", 19, w -> x.republic(0, w), -1000, 0, 1, 2, 0, 0, 0, -1000);
        CHECK.due("nobody", Check.with("").republic(0, 2), NONE);
    }

    /** 7: "10 + h: KIND of his DEED in hour h (NONE), 30 + h: weight of hour h. -2: there is none such (of either), or for another what." */
    private static void person() {
        GluedHour x = full();
        none("of a republic", 1, r -> x.person(r, 0, 0), -2, true);
        none("of people", 2, p -> x.person(0, p, 0), -2, true);
        others("person", w -> x.person(0, 0, w), -2, 1, 2, 5, 9, 14, 15, 21, 22, 29, 34, 41, 42, 50);
        GluedHour y = Check.with("hours 12;person 3;does 0 0 5;does 0 11 4;lot 0 0 8;lot 0 11 7;");
        CHECK.row("deeds", 9, w -> y.person(0, 0, w), -2, 5, NONE);
        CHECK.row("the last deeds", 20, w -> y.person(0, 0, w), NONE, 4, -2);
        CHECK.row("weights", 29, w -> y.person(0, 0, w), -2, 8, 1);
        CHECK.row("the last weights", 40, w -> y.person(0, 0, w), 1, 7, -2);
        GluedHour two = Check.with("hours 2;person 3;");
        CHECK.row("deeds of two hours", 10, w -> two.person(0, 0, w), NONE, NONE, -2);
        CHECK.row("weights of two hours", 30, w -> two.person(0, 0, w), 1, 1, -2);
    }

    /** 8: "or (person NONE) of all together. -1000000: there is none such (of any)." */
    private static void value() {
        GluedHour x = full();
        none("of a republic", 1, r -> x.value(r, 0, 0), NO, true);
        none("of people", 2, p -> x.value(0, p, 0), NO, false);
        none("by an hour", 4, h -> x.value(0, 0, h), NO, true);
        none("of all by an hour", 4, h -> x.value(0, NONE, h), NO, true);
        CHECK.row("of all", 3, h -> x.value(0, NONE, h), 14, NO);
        CHECK.due("of nobody", Check.with("").value(0, NONE, 7), 0);
        CHECK.due("of nobody by no hour", Check.with("").value(0, NONE, 8), NO);
    }

    /** 9: "N, or (under) D (least terms). NONE: there is none such (of either)." */
    private static void odds() {
        GluedHour x = full();
        none("of a republic", 1, r -> x.odds(r, 0, false), NONE, true);
        none("of an hour", 4, h -> x.odds(0, h, true), NONE, true);
        GluedHour y = Check.with("hours 3;person 0;lot 0 0 9;lot 0 1 6;lot 0 2 3;");
        CHECK.row("least terms", 0, h -> y.odds(0, h, false), 1, 1, 1, NONE);
        CHECK.row("least terms, under", 0, h -> y.odds(0, h, true), 2, 3, 6, NONE);
    }

    /** 10: "How many DAYS (k NONE); the hour of DAY k. -2: there is none such (of either)." */
    private static void day() {
        GluedHour x = full();
        none("of a week", 1, w -> x.day(w, NONE), -2, true);
        none("of a week's day", 1, w -> x.day(w, 0), -2, true);
        none("of a day", 3, k -> x.day(0, k), -2, false);
        CHECK.row("days", -2, k -> x.day(0, k), -2, 3, 2, 0, 4, -2);
        GluedHour y = Check.with(null, "");
        CHECK.row("no days", -1, k -> y.day(0, k), 0, -2);
    }

    /** 11: "or (person NONE) the POOREST (NONE). -1000000: it STOPS ahead of that, or there is none such (of any)." */
    private static void purse() {
        GluedHour x = full();
        none("of a republic", 1, r -> x.purse(r, 0, 0, 0), NO, true);
        none("of a week", 1, w -> x.purse(0, w, 0, 0), NO, true);
        none("of people", 2, p -> x.purse(0, 0, 0, p), NO, false);
        none("of days", 3, n -> x.purse(0, 0, n, 0), NO, true);
        none("the poorest of days", 3, n -> x.purse(0, 0, n, NONE), NO, true);
        CHECK.row("ahead of its stop", 0, n -> x.purse(0, 0, n, 1), 4, 11, 13, NO, NO);
        GluedHour y = Check.with("hours 2;", "stuck 1;");
        CHECK.row("nobody", -1, n -> y.purse(0, 0, n, NONE), NO, NONE, NONE, NO);
        CHECK.due("one of nobody", y.purse(0, 0, 0, 0), NO);
    }

    /** 12: "LIKELY of n DAYS, 0 .. 6. NONE: it STOPS ahead of that, there is none such (of either), or other DAYS." */
    private static void likely() {
        GluedHour x = full();
        none("of a republic", 1, r -> x.likely(r, 0, 0, false), NONE, true);
        none("of a week", 1, w -> x.likely(0, w, 0, true), NONE, true);
        none("of days", 3, n -> x.likely(0, 0, n, true), NONE, true);
        CHECK.row("ahead of its stop", 0, n -> x.likely(0, 0, n, true), 1, 4, 8, NONE, NONE);
        GluedHour y = Check.with("hours 2;", "stuck 1;".repeat(14));
        CHECK.row("six and no more", -1, n -> y.likely(0, 0, n, true), NONE, 1, 2, 4, 8, 16, 32, 64, NONE, NONE);
        CHECK.due("fourteen", y.likely(0, 0, 14, true), NONE);
        GluedHour few = Check.with("hours 2;", "stuck 1;".repeat(5));
        CHECK.row("more than it has", 5, n -> few.likely(0, 0, n, true), 32, NONE, NONE);
    }

    /** 13: "n DAYS, 0 .. 60; 11: the last day's hour (NONE). -1000000: none such (of any), other DAYS, or for another what." */
    private static void drawn() {
        GluedHour x = full();
        none("of a republic", 1, r -> x.drawn(r, 1, 0, 10), NO, true);
        none("of days", 61, n -> x.drawn(0, 1, n, 10), NO, true);
        CHECK.row("days", -1, n -> x.drawn(0, 1, n, 10), NO, 1, 1);
        CHECK.row("many days", 59, n -> x.drawn(0, 1, n, 10), 1, 1, NO);
        others("drawn", w -> x.drawn(0, 1, 4, w), NO, 2, 3, 4, 5, 6, 9, 12, 19, 24, 25, 31, 32, 100);
        CHECK.row("no days", 10, w -> x.drawn(0, 1, 0, w), 1, NONE);
        CHECK.row("no days' hours", 19, w -> x.drawn(0, 1, 0, w), NO, 0, 0, 0, 0, NO);
        CHECK.row("no days' purses", -1, w -> x.drawn(0, 1, 0, w), NO, 10, 4, NO);
        GluedHour y = Check.with("hours 12;" + "person 0;".repeat(6));
        CHECK.row("six", 4, w -> y.drawn(0, 1, 60, w), 0, 0, NO);
        CHECK.row("the last hours", 31, w -> y.drawn(0, 1, 0, w), 0, NO);
        CHECK.due("nobody", Check.with("").drawn(0, 1, 60, 10), NONE);
        CHECK.due("one of nobody", Check.with("").drawn(0, 1, 60, 0), NO);
    }

    /** 14: "MEAN of one, N, or (under) D. -1000000: there is none such (of either)." */
    private static void mean() {
        GluedHour x = full();
        none("of a republic", 1, r -> x.mean(r, 0, false), NO, true);
        none("of people", 2, p -> x.mean(0, p, true), NO, true);
        CHECK.due("a whole one, under", Check.with("gain 0 4 once;person 0;does 0 0 0;").mean(0, 0, true), 1);
        CHECK.due("below 0", Check.with("hours 2;loss 0 1 twice;person 0;does 0 0 0;").mean(0, 0, false), -3);
        CHECK.due("below 0, under", Check.with("hours 2;loss 0 1 twice;person 0;does 0 0 0;").mean(0, 0, true), 2);
        CHECK.due("nothing, under", Check.with("person 0;").mean(0, 0, true), 1);
    }

    /** 15: "GAIN of one by an hour, N, or (under) D. -1000000: there is none such (of any)." */
    private static void gain() {
        GluedHour x = full();
        none("of a republic", 1, r -> x.gain(r, 0, 0, false), NO, true);
        none("of people", 2, p -> x.gain(0, p, 0, true), NO, true);
        none("by an hour", 4, h -> x.gain(0, 0, h, true), NO, true);
        CHECK.due("of no odds", x.gain(0, 0, 3, false), -3);
        CHECK.due("of no odds, under", x.gain(0, 0, 3, true), 4);
    }

    /** 16: "WISH of one, or (person NONE) CHOICE. NONE: there is none such (of either)." */
    private static void wish() {
        GluedHour x = full();
        none("of a republic", 1, r -> x.wish(r, 1), NONE, true);
        none("choice of a republic", 1, r -> x.wish(r, NONE), NONE, true);
        none("of people", 2, p -> x.wish(0, p), NONE, false);
        CHECK.row("there", -1, p -> x.wish(0, p), 0, 0, 2, NONE);
        CHECK.due("choice of nobody", Check.with("").wish(0, NONE), 0);
    }

    /** 17: "-1000000: there are no PEOPLE, there is none such, or for another what." */
    private static void buyer() {
        GluedHour x = full();
        none("of a republic", 1, r -> x.buyer(r, 0), NO, true);
        others("buyer", w -> x.buyer(0, w), NO, 3, 4, 10);
        GluedHour nobody = Check.with("");
        CHECK.row("no people", -1, w -> nobody.buyer(0, w), NO, NO, NO, NO, NO);
    }

    /** 18: "PROMISE of a KIND by one, N, or (under) D. -1000000: there is none such (of any)." */
    private static void promise() {
        GluedHour x = full();
        none("of a republic", 1, r -> x.promise(r, 0, 0, false), NO, true);
        none("of people", 2, p -> x.promise(0, p, 0, true), NO, true);
        none("of a kind", 6, k -> x.promise(0, 0, k, true), NO, true);
        CHECK.row("the last kinds", 4, k -> x.promise(0, 0, k, true), 1, 1, NO);
    }

    /** 19: "TWO by hours a, b. -1000000: there is none such (of any)." */
    private static void two() {
        GluedHour x = full();
        none("of a republic", 1, r -> x.two(r, 0, 0, 0), NO, true);
        none("of people", 2, p -> x.two(0, p, 0, 0), NO, true);
        none("by a", 4, h -> x.two(0, 0, h, 0), NO, true);
        none("by b", 4, h -> x.two(0, 0, 0, h), NO, true);
        none("by both", 4, h -> x.two(0, 0, h, h), NO, true);
    }

    /** 20: "the hours (NONE: none), 2, 3: MEAN then (NONE: as it is). -1000000: none such (of either), or for another what." */
    private static void shift() {
        GluedHour x = full();
        none("of a republic", 1, r -> x.shift(r, 0, 0), NO, true);
        none("of people", 2, p -> x.shift(0, p, 0), NO, true);
        others("shift", w -> x.shift(0, 0, w), NO, 4, 5, 10);
        CHECK.row("none", 0, w -> x.shift(0, 1, w), NONE, NONE, x.mean(0, 1, false), x.mean(0, 1, true), NO);
    }

    /** 21: "FEUD, what 0, 1: the hours, 2: by how much. NONE: there is none such, or for another what." */
    private static void feud() {
        GluedHour x = full();
        none("of a republic", 1, r -> x.feud(r, 2), NONE, true);
        others("feud", w -> x.feud(0, w), NONE, 3, 4, 10);
        GluedHour nobody = Check.with("hours 2;");
        CHECK.row("nobody", 0, w -> nobody.feud(0, w), 0, 1, 0, NONE);
    }

    /** 22: "How many ERRANDS (k NONE, what 0). -2: there is none such (of either), or for another what." */
    private static void errand() {
        GluedHour x = full();
        none("of errands", 1, e -> x.errand(e, NONE, 0), -2, true);
        none("of errands' first", 1, e -> x.errand(e, 0, 0), -2, true);
        none("of one", 2, k -> x.errand(0, k, 0), -2, false);
        others("errand", w -> x.errand(0, 0, w), -2, 3, 4);
        others("how many", w -> x.errand(0, NONE, w), -2, 1, 2, 3);
        GluedHour empty = Check.with(null, null, "");
        CHECK.row("none of them", -1, k -> empty.errand(0, k, 0), 0, -2);
    }

    /** 23: "6: REGRET (NONE), 10 + k: BLIND's hour of the k-th. -1000000: they can't be done, none such (of either), or another what." */
    private static void plan() {
        GluedHour x = full();
        none("of a republic", 1, r -> x.plan(r, 0, 0), NO, true);
        none("of errands", 1, e -> x.plan(0, e, 0), NO, true);
        others("plan", w -> x.plan(0, 0, w), NO, 7, 8, 9, 12, 13, 15, 16, 20);
        CHECK.row("hours", 10, w -> x.plan(0, 0, w), 0, 1, NO);
        // Each what asked alone, of a new object and behind another row.
        for (int what = 0; what <= 6; what++) {
            GluedHour y = Check.with(Check.TOWN, null, "errand 0 0 2;errand 2 0 1;");
            CHECK.due("alone, what " + what, y.plan(0, 0, what), x.plan(0, 0, what));
            Check.tell(y, 2, 0, "errand 0 0 0;");
            CHECK.due("behind another, what " + what, y.plan(0, 0, what), new int[] {15, 2, 15, 2, 0, 1, NONE}[what]);
        }
        GluedHour cannot = Check.with("", null, "errand 0 1 1;errand 0 1 1;");
        CHECK.row("can't be done", -1, w -> cannot.plan(0, 0, w), NO, NO, NO, NO, NO, NO, NO, NO, NO, NO, NO, NO, NO, NO);
        GluedHour empty = Check.with("", null, "");
        CHECK.row("none of them", -1, w -> empty.plan(0, 0, w), NO, 0, 1, 0, 1, 0, 1, NONE, NO, NO, NO, NO, NO);
    }

    /** 24: "How many TRAINS (k NONE, what 0). -2: there is none such (of either), or for another what." */
    private static void train() {
        GluedHour x = full();
        none("of a table", 1, t -> x.train(t, NONE, 0), -2, true);
        none("of a table's first", 1, t -> x.train(t, 0, 0), -2, true);
        none("of one", 2, k -> x.train(0, k, 0), -2, false);
        others("train", w -> x.train(0, 0, w), -2, 2, 3);
        others("how many", w -> x.train(0, NONE, w), -2, 1, 2);
        GluedHour empty = Check.with(null, null, null, "");
        CHECK.row("none of them", -1, k -> empty.train(0, k, 0), 0, -2);
    }

    /** 25: "(hour NONE) SLACK (1000 with less than two TRAINS). -1000: there is none such (of any)." */
    private static void holds() {
        GluedHour x = full();
        none("of a republic", 1, r -> x.holds(r, 0, 0), -1000, true);
        none("slack of a republic", 1, r -> x.holds(r, 0, NONE), -1000, true);
        none("of a table", 1, t -> x.holds(0, t, 0), -1000, true);
        none("slack of a table", 1, t -> x.holds(0, t, NONE), -1000, true);
        none("by an hour", 4, h -> x.holds(0, 0, h), -1000, false);
        for (String few : new String[] {"", "train 3 9;"}) {
            GluedHour y = Check.with("hours 2;", null, null, few);
            CHECK.row("less than two", -2, h -> y.holds(0, 0, h), -1000, 1000, 1, 1, -1000);
        }
    }

    /** 26: "or (hour 0 .. 11) CLOCK of TRAIN k by that STUCK hour. NONE: there is none such (of any)." */
    private static void clock() {
        GluedHour x = full();
        none("of a republic", 1, r -> x.clock(r, 0, 0, 0), NONE, true);
        none("least of a republic", 1, r -> x.clock(r, 0, 0, NONE), NONE, true);
        none("of a table", 1, t -> x.clock(0, t, 0, 0), NONE, true);
        none("least of a table", 1, t -> x.clock(0, t, 0, NONE), NONE, true);
        none("of a train", 2, k -> x.clock(0, 0, k, 0), NONE, true);
        none("least of a train", 2, k -> x.clock(0, 0, k, NONE), NONE, true);
        CHECK.row("hours there, and not there", 0, h -> x.clock(0, 0, 1, h), 3, 3, 2, 3, NONE, NONE, NONE, NONE, NONE, NONE, NONE, NONE);
        GluedHour y = Check.with("hours 12;", null, null, "train 11 1;");
        CHECK.row("the last hours", 10, h -> y.clock(0, 0, 0, h), 12, 11);
        GluedHour empty = Check.with("", null, null, "");
        CHECK.due("no trains", empty.clock(0, 0, 0, 0), NONE);
        CHECK.due("least of no trains", empty.clock(0, 0, 0, NONE), NONE);
    }

    /** 27: "How many SIGHTS (k NONE, what 0). -1000000: there is none such (of either), or for another what." */
    private static void sight() {
        GluedHour x = full();
        none("of sights", 1, s -> x.sight(s, NONE, 0), NO, true);
        none("of sights' first", 1, s -> x.sight(s, 0, 0), NO, true);
        none("of one", 1, k -> x.sight(0, k, 0), NO, false);
        others("sight", w -> x.sight(0, 0, w), NO, 3, 4);
        others("how many", w -> x.sight(0, NONE, w), NO, 1, 2, 3);
        GluedHour empty = Check.with(null, null, null, null, "");
        CHECK.row("none of them", -1, k -> empty.sight(0, k, 0), 0, NO);
    }

    /** 28: "10 + d: SURE of DAY d (NONE: none), 20 + d: MAYBE of DAY d. -2: there is none such (of either), or for another what." */
    private static void fits() {
        GluedHour x = full();
        none("of a republic", 1, r -> x.fits(r, 0, 0), -2, true);
        none("of sights", 1, s -> x.fits(0, s, 0), -2, true);
        others("fits", w -> x.fits(0, 0, w), -2, 1, 2, 9, 11, 12, 13, 19, 21, 22, 23, 30);
        GluedHour y = Check.with("hours 2;person 0;", null, null, null, "has 3 0 0;");
        others("three days", w -> y.fits(0, 0, w), -2, 1, 9, 13, 14, 19, 23, 24);
        CHECK.row("sure", 10, w -> y.fits(0, 0, w), NONE, NONE, NONE);
        CHECK.row("maybe", 20, w -> y.fits(0, 0, w), 3, 3, 3);
    }

    /** 29: "REIGN of n DAYS, 0 .. 60; 100 + d: the hour of DAY d. -1000000: none such (of any), other DAYS, or for another what." */
    private static void reign() {
        GluedHour x = full();
        none("of a republic", 1, r -> x.reign(r, 0, 10), NO, true);
        none("of days", 61, n -> x.reign(0, n, 10), NO, true);
        CHECK.row("days", -1, n -> x.reign(0, n, 10), NO, 1, 1);
        CHECK.row("many days", 59, n -> x.reign(0, n, 10), 1, 1, NO);
        others("reign", w -> x.reign(0, 3, w), NO, 2, 3, 4, 5, 6, 9, 12, 19, 22, 25, 26, 99, 103, 104, 159, 160);
        CHECK.row("no days", 10, w -> x.reign(0, 0, w), 1, NONE, NO);
        CHECK.row("no days' choices", 19, w -> x.reign(0, 0, w), NO, 0, 0, NO);
        CHECK.due("no days' hours", x.reign(0, 0, 100), NO);
        CHECK.row("the last of sixty", 158, w -> x.reign(0, 60, w), 2, 2, NO);
        GluedHour nobody = Check.with("");
        CHECK.row("nobody", 10, w -> nobody.reign(0, 1, w), NONE, NONE, NO);
        CHECK.due("nobody's purse", nobody.reign(0, 1, 0), NO);
        CHECK.due("nobody's choices", nobody.reign(0, 1, 20), NO);
        GluedHour six = Check.with("person 1;".repeat(6));
        CHECK.row("choices of six", 19, w -> six.reign(0, 60, w), NO, 60, 0, 0, 0, 0, 0, NO);
    }

    /** 30: "HOPE of one after n DAYS, 0 .. 2. -1000000: there is none such (of either), or other DAYS." */
    private static void hope() {
        GluedHour x = full();
        none("of a republic", 1, r -> x.hope(r, 0, 0, false), NO, true);
        none("of people", 2, p -> x.hope(0, p, 1, true), NO, true);
        none("of days", 3, n -> x.hope(0, 0, n, true), NO, true);
        CHECK.row("days, under", -1, n -> x.hope(0, 0, n, true), NO, 1, 4, 2, NO);
    }

    /** 31: "DOOM, likewise. NONE: as hope()." */
    private static void doom() {
        GluedHour x = full();
        none("of a republic", 1, r -> x.doom(r, 0, 0, false), NONE, true);
        none("of people", 2, p -> x.doom(0, p, 1, true), NONE, true);
        none("of days", 3, n -> x.doom(0, 0, n, true), NONE, true);
        CHECK.row("days", -1, n -> x.doom(0, 1, n, false), NONE, 1, 1, 1, NONE);
    }

    /** 32: "2, 3: all MEANS together then, N, D. -1000000: there is none such, or for another what." */
    private static void ruling() {
        GluedHour x = full();
        none("of a republic", 1, r -> x.ruling(r, 0), NO, true);
        others("ruling", w -> x.ruling(0, w), NO, 4, 5, 10);
        GluedHour nobody = Check.with("gain 3 9 undone;");
        CHECK.row("nobody", 0, w -> nobody.ruling(0, w), 0, 0, 0, 1, NO);
    }

    /** 33: "TRUST, N, or (under) D. NONE: there is none such (of either)." */
    private static void trust() {
        GluedHour x = full();
        none("of a republic", 1, r -> x.trust(r, 0, false), NONE, true);
        none("of a table", 1, t -> x.trust(0, t, true), NONE, true);
    }

    /** 34: "NONE: there are not two TRAINS, or there is none such (of either)." */
    private static void tight() {
        GluedHour x = full();
        none("of a republic", 1, r -> x.tight(r, 0), NONE, true);
        none("of a table", 1, t -> x.tight(0, t), NONE, true);
        CHECK.due("no trains", Check.with("", null, null, "").tight(0, 0), NONE);
        CHECK.due("one", Check.with("", null, null, "train 0 1;").tight(0, 0), NONE);
        CHECK.due("two", Check.with("", null, null, "train 0 1;train 0 1;").tight(0, 0), 0);
    }

    /** 35: "-1000000: either can't be done, or there is none such (of either)." */
    private static void free() {
        GluedHour x = full();
        none("of a republic", 1, r -> x.free(r, 0, false), NO, true);
        none("of errands", 1, e -> x.free(0, e, true), NO, true);
        GluedHour y = Check.with("hours 2;", null, "errand 0 1 1;errand 0 1 1;");
        CHECK.due("can't be done", y.free(0, 0, false), NO);
        CHECK.due("can't be done, under", y.free(0, 0, true), NO);
        Check.tell(y, 2, 0, "errand 0 0 1;".repeat(3));
        CHECK.due("nor free", y.free(0, 0, false), NO);
        Check.tell(y, 2, 0, "");
        CHECK.due("none of them", y.free(0, 0, false), 0);
        CHECK.due("none of them, under", y.free(0, 0, true), 1);
    }

    /** 36: "How many there are of a sort. -2 for another one." */
    private static void count() {
        GluedHour x = full();
        CHECK.row("one each", -1, x::count, -2, 1, 1, 1, 1, 1, -2);
        others("count", x::count, -2, 5, 6, 10);
    }

    /** 37: "Image k (0 .. 2) is all that is told (the tape, the FAULT, too), as it is now: true; false for another k." */
    private static void image() {
        GluedHour x = new GluedHour();
        for (int k : new int[] {LEAST, -2, -1, 3, 4, MOST}) {
            CHECK.due("image " + k, x.image(k), false);
            CHECK.due("again " + k, x.again(k), false);
        }
        CHECK.due("an image of nothing", x.image(2), true);
        CHECK.due("no other image", x.again(1), false);
        Check.tell(x, 1, NONE, "stuck 1;");
        Check.tell(x, 1, NONE, "stuck 12;");
        Check.tape(x, "stuck 2;");
        CHECK.due("an image", x.image(0), true);
        Check.tell(x, 1, 0, "stuck 9;stuck 9;");
        CHECK.due("that image", x.again(0), true);
        CHECK.row("its fault", 0, x::fault, 2, 6);
        CHECK.due("its week", x.day(0, 0), 1);
        CHECK.due("its tape", x.end(8), 8);
        CHECK.due("its tape's end", x.end(9), NONE);
        CHECK.due("its tape's text", x.text(1, NONE), 1);
        CHECK.due("its tape's day", x.day(1, 0), 2);
        CHECK.due("an image again, of what is now", x.image(0), true);
        CHECK.due("that of nothing", x.again(2), true);
        CHECK.row("nothing", 0, x::count, 0, 0, 0, 0, 0);
        CHECK.row("its fault", 0, x::fault, 0, NONE);
        CHECK.due("its tape", x.end(1), NONE);
        CHECK.due("an image of what is now", x.again(0), true);
        CHECK.due("two weeks", x.count(1), 2);
    }

    /** 38: "All that is as image k has it: true; false if there is none such." */
    private static void again() {
        GluedHour x = full();
        none("none such", 0, k -> x.again(k) ? 1 : 0, 0, true);
        CHECK.due("none yet", x.again(0), false);
        CHECK.row("as it was", 0, x::count, 1, 1, 1, 1, 1);
        x.image(1);
        CHECK.row("one of three", 0, k -> x.again(k) ? 1 : 0, 0, 1, 0);
        for (int sort = 0; sort < 5; sort++) {
            Check.tell(x, sort, 0, "");
            Check.tell(x, sort, NONE, "");
        }
        // What comes then does not come into the image.
        for (int turn = 0; turn < 2; turn++) {
            CHECK.due("again", x.again(1), true);
            CHECK.row("one of each", 0, x::count, 1, 1, 1, 1, 1);
            CHECK.due("people", x.republic(0, 1), 2);
            CHECK.due("days", x.day(0, NONE), 3);
            CHECK.due("errands", x.errand(0, NONE, 0), 2);
            CHECK.due("trains", x.train(0, NONE, 0), 2);
            CHECK.due("sights", x.sight(0, NONE, 0), 1);
            Check.tell(x, 0, 0, "person 1;");
            Check.tell(x, 1, 0, "stuck 7;");
            Check.tape(x, "????");
        }
        CHECK.due("the fault of none", x.fault(0), 0);
        CHECK.due("a refused one", x.again(0), false);
        CHECK.due("changes nothing", x.republic(0, 1), 1);
    }

    /** Term 1's greatest: six people and twelve hours, in every call of today. */
    private static void mostOfAll() {
        GluedHour x = Check.with(MOST_OF_ALL, null, "errand 5 0 11;".repeat(6), "train 0 9;train 8 9;train 11 9;");
        CHECK.row("odds", 0, h -> x.odds(0, h, false), 0, 1, 1, 1, 1, 1, 1, 1, 1, 1, 1, 9, NONE);
        CHECK.row("of all", 0, h -> x.value(0, NONE, h), -99, 0, 0, 0, 0, 0, 0, 0, 0, 0, 0, 99, NO);
        CHECK.row("mean", 0, p -> x.mean(0, p, false), -99, 0, 0, 0, 0, 2772, NO);
        CHECK.row("gain", 10, h -> x.gain(0, 5, h, false), -891, 990, NO);
        CHECK.row("wish", -1, p -> x.wish(0, p), 11, 1, 0, 0, 0, 0, 11, NONE);
        CHECK.row("buyer", 0, w -> x.buyer(0, w), 5, 0, 1);
        CHECK.row("promise", 0, p -> x.promise(0, p, 5, false), 198, 198, 198, 198, 198, 1980, NO);
        CHECK.row("two", 10, b -> x.two(0, 5, 11, b), 198, 297, NO);
        CHECK.row("shift", 0, w -> x.shift(0, 5, w), NONE, NONE, 2772, 19);
        CHECK.row("feud", 0, w -> x.feud(0, w), 0, 11, 198);
        CHECK.row("plan", 0, w -> x.plan(0, 0, w), 12672, 19, 693, 1, 495, 19, 6, NO, NO, NO, 1, 2, 3, 4, 5, 11, NO);
        CHECK.due("free", x.free(0, 0, false), 0);
        CHECK.row("holds", -1, h -> x.holds(0, 0, h), -6, 0, 0, 0, 0, 0, 0, 0, 0, 0, 0, 0, 0, -1000);
        CHECK.due("tight", x.tight(0, 0), 1);
        Check.tell(x, 3, 0, "train 0 9;train 8 1;");
        CHECK.row("holds by some", -1, h -> x.holds(0, 0, h), -1, 1, 1, 1, 1, 1, 1, 1, 1, 0, 0, 0, 0, -1000);
        CHECK.row("trust", 0, u -> x.trust(0, 0, u == 1), 7, 19);
        CHECK.row("ruling", 0, w -> x.ruling(0, w), 0, 0, 891, 19);
    }

    /** Term 1's greatest, in every call of days. */
    private static void mostOfDays() {
        GluedHour x = Check.with(MOST_OF_ALL, "stuck 11;".repeat(14), null, null, "has 3 5 594;");
        CHECK.row("purse", 0, p -> x.purse(0, 0, 14, p), 999 - 14 * 99, 999, 999, 999, 999, 14 * 198, NO);
        CHECK.row("likely", 0, n -> x.likely(0, 0, n, true), 1, 19, 361, 6859, 130321, 521284, 2085136, NONE);
        CHECK.row("drawn", 0, n -> x.drawn(0, 1, n, 11), NONE, 5, 11, 6);
        CHECK.row("reign", 0, w -> x.reign(0, 60, w), 999 - 60 * 99, 999, 999, 999, 999, 4 * 198 + 56 * 99, NO);
        CHECK.row("poorest and fall", 10, w -> x.reign(0, 60, w), 0, 3, NO);
        CHECK.row("choices", 20, w -> x.reign(0, 60, w), 56, 0, 0, 0, 0, 4, NO);
        CHECK.row("hours", 100, w -> x.reign(0, 60, w), 11, 11, 11, 11, 1, 1);
        CHECK.row("hope", 0, n -> x.hope(0, 5, n, false), 0, 2772, 5544, NO);
        CHECK.row("hope of 0", 0, n -> x.hope(0, 0, n, false), 999, 900, 801, NO);
        CHECK.row("doom", 0, p -> x.doom(0, p, 2, false), 0, 0, 0, 0, 0, 1, NONE);
        CHECK.due("fits", x.fits(0, 0, 0), 1);
        CHECK.row("sure", 10, w -> x.fits(0, 0, w), 11, 11, 11, -2);
        CHECK.row("maybe", 20, w -> x.fits(0, 0, w), 2048, 2048, 2048, -2);
        Check.tell(x, 4, 0, "has 1 5 99;");
        CHECK.due("rows of ten hours", x.fits(0, 0, 0), 10);
        CHECK.due("hours 1 to 10", x.fits(0, 0, 20), 2046);
    }

    /** What a call of one REPUBLIC left behind does not come into the next call of a smaller one. */
    private static void fewerBehindMore() {
        GluedHour x = Check.with(MOST_OF_ALL, "stuck 1;stuck 0;stuck 11;", "errand 0 0 11;errand 0 0 11;", "train 0 9;train 8 1;", "has 2 0 9;");
        Check.tell(x, 0, NONE, "hours 2;gain 0 5 twice;person 3;does 0 1 0;");
        for (int turn = 0; turn < 2; turn++) {
            x.mean(0, 5, false);
            x.plan(0, 0, 6);
            x.hope(0, 5, 2, false);
            CHECK.row("odds", 0, h -> x.odds(1, h, true), 2, 2, NONE);
            CHECK.row("mean", 0, u -> x.mean(1, 0, u == 1), 15, 2);
            x.fits(0, 0, 0);
            CHECK.row("plan", 0, w -> x.plan(1, 0, w), 15, 1, 15, 1, 0, 1, NONE);
            CHECK.row("promise", 0, u -> x.promise(1, 0, 0, u == 1), 5, 1);
            x.reign(0, 60, 0);
            CHECK.row("hope", 0, n -> x.hope(1, 0, n, false), 3, 21, 18);
            CHECK.row("doom", 0, n -> x.doom(1, 0, n, false), 1, 1, 1);
            x.drawn(0, 1, 60, 0);
            CHECK.row("purse", 0, n -> x.purse(1, 0, n, 0), 3, 13, 18, NO);
            CHECK.row("fits", 20, w -> x.fits(1, 0, w), 0, 0, -2);
            CHECK.row("buyer", 0, w -> x.buyer(1, w), 0, 0, 1);
            CHECK.row("trust", 0, u -> x.trust(1, 0, u == 1), 1, 1);
        }
    }

    /** No call but feed, end, text and again changes what is told. */
    private static void asking() {
        GluedHour x = full();
        for (int turn = 0; turn < 2; turn++) {
            CHECK.row("republic", 0, w -> x.republic(0, w), 4, 2, 1);
            CHECK.row("purses", 0, p -> x.person(0, p, 0), 10, 4);
            x.purse(0, 0, 2, 0);
            x.drawn(0, 5, 60, 0);
            x.reign(0, 60, 0);
            x.hope(0, 0, 2, false);
            x.fits(0, 0, 0);
            x.ruling(0, 0);
            x.shift(0, 0, 0);
            x.plan(0, 0, 4);
            x.free(0, 0, false);
            x.image(0);
            CHECK.row("modes", 20, w -> x.republic(0, w), 0, 1, 2);
            CHECK.row("deeds", 10, w -> x.person(0, 0, w), 0, 2, NONE, NONE);
            CHECK.row("mean", 0, p -> x.mean(0, p, false), 51, 13);
            CHECK.row("count", 0, x::count, 1, 1, 1, 1, 1);
        }
    }
}
