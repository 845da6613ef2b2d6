/** Promises 1 to 5 and 36 to 38: the tape, texts and their faults, how many there are, images. */
public final class TapeTest {
    private static final Check CHECK = new Check("TapeTest");
    private static final int NONE = GluedHour.NONE;

    public static void main(String[] args) {
        newObject();
        feed();
        end();
        bytesOfFeed();
        text();
        textWithoutPlace();
        syntax();
        cutOff();
        numbers();
        tooMany();
        notThere();
        laterOnes();
        images();
        wholeImages();
        CHECK.end();
    }

    private static void newObject() {
        GluedHour x = new GluedHour();
        CHECK.row("new count", -1, x::count, -2, 0, 0, 0, 0, 0, -2);
        CHECK.row("new fault", -1, x::fault, NONE, 0, NONE, NONE);
        CHECK.row("new again", -1, k -> x.again(k) ? 1 : 0, 0, 0, 0, 0, 0);
        CHECK.due("new end", x.end(1), NONE);
    }

    private static void feed() {
        GluedHour x = new GluedHour();
        for (int i = 1; i <= 30; i++) {
            CHECK.due("feed " + i, x.feed(0, 0, 0, 0, 0), 20 * i);
        }
        CHECK.due("feed a full tape", x.feed(0, 0, 0, 0, 0), NONE);
        CHECK.due("nothing came", x.end(601), NONE);
        CHECK.due("all is there", x.end(600), 600);
        CHECK.due("end 581", x.end(581), 581);
        CHECK.due("19 bytes are too few", x.feed(0, 0, 0, 0, 0), NONE);
        CHECK.due("end 580", x.end(580), 580);
        CHECK.due("20 bytes are enough", x.feed(0, 0, 0, 0, 0), 600);
    }

    private static void end() {
        GluedHour x = new GluedHour();
        CHECK.due("end 0 of 0", x.end(0), 0);
        x.feed(1, 2, 3, 4, 5);
        CHECK.row("end out of reach", 21, x::end, NONE, NONE);
        CHECK.due("end -1", x.end(-1), NONE);
        CHECK.due("end least", x.end(Integer.MIN_VALUE), NONE);
        CHECK.due("end 20", x.end(20), 20);
        CHECK.due("end 7", x.end(7), 7);
        CHECK.due("end 8 of 7", x.end(8), NONE);
    }

    /** The highest byte comes first, and numbers come in their order. */
    private static void bytesOfFeed() {
        GluedHour x = new GluedHour();
        int stuc = 's' << 24 | 't' << 16 | 'u' << 8 | 'c';
        int k1 = 'k' << 24 | ' ' << 16 | '1' << 8 | ';';
        int k2 = 'k' << 24 | '\n' << 16 | '2' << 8 | ';';
        x.feed(stuc, k1, stuc, k2, 0x20202020);
        CHECK.due("text", x.text(1, NONE), 0);
        CHECK.row("day", -1, k -> x.day(0, k), 2, 1, 2, -2);
    }

    private static void text() {
        GluedHour x = new GluedHour();
        CHECK.due("empty text of each sort", x.text(0, NONE), 0);
        for (int sort = 1; sort < 5; sort++) {
            CHECK.due("text of sort " + sort, x.text(sort, NONE), 0);
        }
        CHECK.due("a further one", Check.tell(x, 1, NONE, "stuck 3;"), 1);
        CHECK.due("the tape is empty then", x.end(1), NONE);
        CHECK.due("in the place of 0", Check.tell(x, 1, 0, "stuck 4;stuck 5;"), 0);
        CHECK.due("day 0 0", x.day(0, 0), 4);
        CHECK.due("day 1 0", x.day(1, 0), 3);
        CHECK.due("in the place of 1", Check.tell(x, 1, 1, ""), 1);
        CHECK.due("no days now", x.day(1, NONE), 0);
        CHECK.due("a fault", Check.tell(x, 1, 0, "stuck 12;"), NONE);
        CHECK.due("the tape is empty then, too", x.end(1), NONE);
        CHECK.due("nothing changed", x.day(0, 0), 4);
        CHECK.row("count", 0, x::count, 1, 2, 1, 1, 1);
        CHECK.due("a fault of a further one", Check.tell(x, 2, NONE, "stuck 0;"), NONE);
        CHECK.due("makes none", x.count(2), 1);
    }

    /** Where there is no place for it, no text is read, but the tape is taken all the same. */
    private static void textWithoutPlace() {
        GluedHour x = new GluedHour();
        int[][] wrong = {{-1, NONE}, {5, NONE}, {0, 0}, {0, 1}, {0, -2}, {4, 0}, {Integer.MAX_VALUE, 0}};
        for (int[] w : wrong) {
            Check.tell(x, 1, NONE, "x");
            CHECK.due("a fault ahead", x.fault(0), 1);
            Check.tape(x, "stuck 3;");
            CHECK.due("text(" + w[0] + ", " + w[1] + ")", x.text(w[0], w[1]), -2);
            CHECK.due("fault", x.fault(0), 0);
            CHECK.due("place", x.fault(1), NONE);
            CHECK.due("the tape is empty then", x.end(1), NONE);
            CHECK.due("and takes twenty bytes from its beginning", x.feed(0, 0, 0, 0, 0), 20);
            CHECK.due("emptied", x.end(0), 0);
        }
        CHECK.due("first", x.text(1, NONE), 0);
        CHECK.due("in the place of one that is not there", Check.tell(x, 1, 1, "stuck 3;"), -2);
        CHECK.due("second", x.text(1, NONE), 1);
        CHECK.due("third", Check.tell(x, 1, NONE, "?"), -2);
        CHECK.due("third, fault", x.fault(0), 0);
        CHECK.due("third, tape", x.end(1), NONE);
        CHECK.due("at 2", x.text(1, 2), -2);
        CHECK.due("count", x.count(1), 2);
    }

    private static void syntax() {
        CHECK.good(0, "");
        CHECK.good(0, " \n ");
        CHECK.good(0, "hours4;");
        CHECK.good(0, "hours\n4 ;  ");
        CHECK.good(0, "gain 0 1twice;loss 1 2once;gain 2 3undone;");
        CHECK.good(0, "hours 004;person 000;");
        CHECK.good(4, "has 1 0 5;owes 3 5 999;");
        CHECK.fault(0, "hours 4", 1, 7);
        CHECK.fault(0, "hours 4  ", 1, 9);
        CHECK.fault(0, "hours", 1, 5);
        CHECK.fault(0, "hours ;", 1, 6);
        CHECK.fault(0, "hours four;", 1, 6);
        CHECK.fault(0, "hours 4;;", 1, 8);
        CHECK.fault(0, "hours 4 5;", 1, 8);
        CHECK.fault(0, "hour 4;", 1, 0);
        CHECK.fault(0, "hourss 4;", 1, 0);
        CHECK.fault(0, "xours 4;", 1, 0);
        CHECK.fault(0, "hours 4zz;", 1, 7);
        CHECK.fault(0, "Hours 4;", 1, 0);
        CHECK.fault(0, "hours 4;\thours 4;", 1, 8);
        CHECK.fault(0, "hours\r4;", 1, 5);
        CHECK.fault(0, "hours 4;\u00e9", 1, 8);
        CHECK.fault(0, "person 1000;", 1, 7);
        CHECK.fault(0, "person 0001;", 1, 7);
        CHECK.fault(0, "person -1;", 1, 7);
        CHECK.fault(0, "4;", 1, 0);
        CHECK.fault(0, "gain 0 1;", 1, 8);
        CHECK.fault(0, "gain 0 1 twiceonce;", 1, 9);
        CHECK.fault(0, "gain 0 1 5;", 1, 9);
        CHECK.fault(0, "lot 0 0;", 1, 7);
        CHECK.fault(0, "stuck 0;", 1, 0);
        CHECK.fault(1, "hours 4;", 1, 0);
        CHECK.fault(1, "stuck 0;errand 0 0 0;", 1, 8);
        CHECK.fault(2, "errand 0 0;", 1, 10);
        CHECK.fault(3, "train 0 1 1;", 1, 10);
        CHECK.fault(4, "sees 1 0 5;", 1, 0);
        // A fault 1 goes ahead of all others, wherever it is.
        CHECK.fault(0, "hours 1;x", 1, 8);
        CHECK.fault(0, "gain 6 0 once;does 0 0 0", 1, 24);
        CHECK.fault(1, "stuck 12;stuck", 1, 14);
    }

    /** What stood behind the end is no part of the text, though the tape had it once. */
    private static void cutOff() {
        cut("hours 12;", 7, 7);
        cut("gain 0 1 once;", 12, 9);
        cut("hours 4;  x", 10, NONE);
        cut("hours 4;", 7, 7);
    }

    private static void cut(String text, int n, int place) {
        GluedHour x = new GluedHour();
        Check.tape(x, text);
        CHECK.due("end of " + text, x.end(n), n);
        CHECK.due("text of " + text, x.text(0, NONE), place == NONE ? 0 : NONE);
        CHECK.due("place of " + text, x.fault(1), place);
    }

    private static void numbers() {
        CHECK.good(0, "hours 2;");
        CHECK.good(0, "hours 12;");
        CHECK.good(0, "gain 5 99 once;loss 0 99 twice;gain 1 0 undone;loss 2 0 once;");
        CHECK.good(0, "person 999;");
        CHECK.good(0, "hours 12;person 0;person 0;person 0;person 0;person 0;person 0;does 5 11 5;lot 5 11 9;lot 0 0 0;");
        CHECK.good(1, "stuck 11;");
        CHECK.good(2, "errand 5 11 11;errand 0 0 11;");
        CHECK.good(3, "train 11 9;train 0 1;");
        CHECK.good(4, "has 3 5 999;owes 1 0 0;");
        CHECK.fault(0, "hours 1;", 2, 6);
        CHECK.fault(0, "hours 13;", 2, 6);
        CHECK.fault(0, "hours 0;", 2, 6);
        CHECK.fault(0, "gain 6 0 once;", 2, 5);
        CHECK.fault(0, "gain 0 100 once;", 2, 7);
        CHECK.fault(0, "loss 6 100 once;", 2, 5);
        CHECK.fault(0, "loss 0 100 once;", 2, 7);
        CHECK.fault(0, "does 6 12 6;", 2, 5);
        CHECK.fault(0, "does 0 12 6;", 2, 7);
        CHECK.fault(0, "does 0 0 6;", 2, 9);
        CHECK.fault(0, "lot 6 0 0;", 2, 4);
        CHECK.fault(0, "lot 0 12 0;", 2, 6);
        CHECK.fault(0, "lot 0 0 10;", 2, 8);
        CHECK.fault(1, "stuck 12;", 2, 6);
        CHECK.fault(2, "errand 6 0 0;", 2, 7);
        CHECK.fault(2, "errand 0 12 12;", 2, 9);
        CHECK.fault(2, "errand 0 0 12;", 2, 11);
        CHECK.fault(2, "errand 0 2 1;", 2, 11);
        CHECK.fault(3, "train 12 1;", 2, 6);
        CHECK.fault(3, "train 0 0;", 2, 8);
        CHECK.fault(3, "train 0 10;", 2, 8);
        CHECK.fault(4, "has 0 0 1;", 2, 4);
        CHECK.fault(4, "has 4 0 1;", 2, 4);
        CHECK.fault(4, "owes 1 6 1;", 2, 7);
        // The first by place.
        CHECK.fault(1, "stuck 0;stuck 99;stuck 12;", 2, 14);
    }

    private static void tooMany() {
        CHECK.good(0, "person 0;".repeat(6));
        CHECK.good(1, "stuck 0;".repeat(14));
        CHECK.good(2, "errand 0 0 0;".repeat(6));
        CHECK.good(3, "train 0 1;".repeat(8));
        CHECK.good(4, "has 1 0 1;owes 1 0 1;".repeat(3));
        CHECK.fault(0, "person 0;".repeat(7), 3, 54);
        CHECK.fault(0, "person 0;".repeat(8), 3, 54);
        CHECK.fault(1, "stuck 0;".repeat(14) + " stuck 0;", 3, 113);
        CHECK.fault(2, "errand 0 0 0;".repeat(7), 3, 78);
        CHECK.fault(3, "train 0 1;".repeat(9), 3, 80);
        CHECK.fault(4, "has 1 0 1;".repeat(7), 3, 60);
        CHECK.fault(4, "has 1 0 1;".repeat(6) + "owes 1 0 1;", 3, 60);
        // By place: the seventh comes ahead of its own number, and behind a wrong number ahead of it.
        CHECK.fault(1, "stuck 0;".repeat(14) + "stuck 12;", 3, 112);
        CHECK.fault(1, "stuck 0;".repeat(13) + "stuck 12;stuck 0;", 2, 110);
        CHECK.fault(1, "stuck 12;" + "stuck 0;".repeat(14), 2, 6);
        // Both go ahead of what is not there.
        CHECK.fault(0, "does 0 0 0;" + "person 0;".repeat(7) + "lot 5 9 0;", 3, 65);
    }

    private static void notThere() {
        CHECK.fault(0, "does 0 0 0;", 4, 11);
        CHECK.fault(0, "does 0 0 0; \n", 4, 13);
        CHECK.fault(0, "lot 0 0 0;", 4, 10);
        CHECK.fault(0, "person 0;does 0 8 0;", 4, 20);
        CHECK.fault(0, "person 0;lot 0 8 0;", 4, 19);
        CHECK.fault(0, "person 0;lot 1 0 0;", 4, 19);
        CHECK.fault(0, "hours 9;person 0;does 0 8 0;hours 8;", 4, 36);
        CHECK.good(0, "does 0 8 0;lot 0 8 2;hours 9;person 0;");
        CHECK.good(0, "hours 2;hours 9;person 0;does 0 8 0;");
        CHECK.fault(0, "does 0 0 0;gain 6 0 once;", 2, 16);
    }

    private static void laterOnes() {
        GluedHour x = Check.with("hours 3;hours 5;gain 0 3 once;loss 0 4 undone;gain 1 2 undone;gain 1 1 twice;person 7;"
            + "person 3;does 0 1 2;does 0 1 3;lot 1 4 5;lot 1 4 6;");
        CHECK.due("hours", x.republic(0, 0), 5);
        CHECK.due("people", x.republic(0, 1), 2);
        CHECK.due("worth 0", x.republic(0, 10), -4);
        CHECK.due("mode 0", x.republic(0, 20), 2);
        CHECK.due("worth 1", x.republic(0, 11), 1);
        CHECK.due("mode 1", x.republic(0, 21), 0);
        CHECK.due("deed", x.person(0, 0, 11), 3);
        CHECK.due("lot", x.person(0, 1, 34), 6);
        Check.tell(x, 0, 0, "");
        CHECK.due("a new text forgets hours", x.republic(0, 0), 8);
        CHECK.due("a new text forgets worths", x.republic(0, 10), 0);
        CHECK.due("a new text forgets modes", x.republic(0, 20), 0);
        CHECK.due("a new text forgets people", x.republic(0, 1), 0);
        Check.tell(x, 0, 0, "person 1;person 1;");
        CHECK.due("a new text forgets deeds", x.person(0, 0, 11), NONE);
        CHECK.due("a new text forgets lots", x.person(0, 1, 34), 1);
    }

    /** The last of everything is in an image, too. */
    private static void wholeImages() {
        GluedHour x = Check.with("hours 12;person 1;person 2;person 3;person 4;person 5;person 6;gain 5 9 undone;does 5 11 5;"
            + "lot 5 11 7;", "stuck 0;".repeat(13) + "stuck 9;", "errand 0 0 0;".repeat(5) + "errand 5 6 7;",
            "train 0 1;".repeat(7) + "train 8 9;", "has 1 0 0;".repeat(5) + "has 3 5 7;");
        x.image(1);
        for (int sort = 0; sort < 5; sort++) {
            Check.tell(x, sort, 0, "");
        }
        CHECK.due("again", x.again(1), true);
        CHECK.due("purse", x.person(0, 5, 0), 6);
        CHECK.due("deed", x.person(0, 5, 21), 5);
        CHECK.due("lot", x.person(0, 5, 41), 7);
        CHECK.due("worth", x.republic(0, 15), 9);
        CHECK.due("mode", x.republic(0, 25), 2);
        CHECK.due("day", x.day(0, 13), 9);
        CHECK.row("errand", 0, w -> x.errand(0, 5, w), 5, 6, 7);
        CHECK.row("train", 0, w -> x.train(0, 7, w), 8, 9);
        CHECK.row("sight", 0, w -> x.sight(0, 5, w), 3, 5, 7);
    }

    private static void images() {
        GluedHour x = Check.with(Check.TOWN, "stuck 2;", "errand 0 0 2;", "train 0 2;", "has 1 0 22;");
        CHECK.row("image", -1, k -> x.image(k) ? 1 : 0, 0, 1);
        CHECK.row("image out of reach", 3, k -> x.image(k) ? 1 : 0, 0, 0);
        CHECK.row("again without", 1, k -> x.again(k) ? 1 : 0, 0, 0, 0);
        Check.tell(x, 0, 0, "hours 5;");
        Check.tell(x, 0, NONE, "hours 6;");
        Check.tell(x, 1, 0, "stuck 3;stuck 4;");
        Check.tell(x, 2, 0, "errand 1 1 1;");
        Check.tell(x, 3, 0, "train 3 3;");
        Check.tell(x, 4, 0, "owes 3 3 3;");
        Check.tell(x, 1, NONE, "stuck 0");
        Check.tape(x, "stuck 5;");
        CHECK.due("image 2", x.image(2), true);
        for (int turn = 0; turn < 2; turn++) {
            CHECK.due("again 0", x.again(0), true);
            CHECK.row("count then", 0, x::count, 1, 1, 1, 1, 1);
            CHECK.row("fault then", 0, x::fault, 0, NONE);
            CHECK.due("tape then", x.end(1), NONE);
            CHECK.row("republic then", 0, w -> x.republic(0, w), 4, 2, 1);
            CHECK.row("deeds and lots then", 30, w -> x.person(0, 1, w), 2, 1, 1, 0);
            CHECK.due("day then", x.day(0, 0), 2);
            CHECK.row("errand then", 0, w -> x.errand(0, 0, w), 0, 0, 2);
            CHECK.row("train then", 0, w -> x.train(0, 0, w), 0, 2);
            CHECK.row("sight then", 0, w -> x.sight(0, 0, w), 1, 0, 22);
            CHECK.due("again 2", x.again(2), true);
            CHECK.row("count now", 0, x::count, 2, 1, 1, 1, 1);
            CHECK.row("fault now", 0, x::fault, 1, 7);
            CHECK.due("hours now", x.republic(1, 0), 6);
            CHECK.due("days now", x.day(0, NONE), 2);
            CHECK.row("sight now", 0, w -> x.sight(0, 0, w), 3, 3, -3);
            CHECK.due("tape now", x.text(1, NONE), 1);
            CHECK.due("its bytes", x.day(1, 0), 5);
        }
        CHECK.due("an image over another", x.image(0), true);
        Check.tell(x, 1, 1, "");
        CHECK.due("again that", x.again(0), true);
        CHECK.due("days of it", x.day(1, NONE), 1);
    }
}
