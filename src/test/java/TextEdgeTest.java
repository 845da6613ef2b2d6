/** Term 1: of each sentence that names an edge of what a text may tell, a test; its comment quotes the sentence. */
public final class TextEdgeTest {
    private static final Check CHECK = new Check("TextEdgeTest");
    private static final int NONE = GluedHour.NONE;

    public static void main(String[] args) {
        hours();
        kinds();
        people();
        deeds();
        lots();
        weeks();
        errands();
        tables();
        sights();
        tapeFull();
        tapeEmpty();
        tokensGoOn();
        blanks();
        digits();
        otherBytes();
        strike();
        furtherOnes();
        breaksOff();
        wordsOfOtherSorts();
        faultOneFirst();
        firstByPlace();
        tellsAllTheSame();
        tooManyAtFirstToken();
        notThereLast();
        notThereAtTheEnd();
        atMostTwo();
        CHECK.end();
    }

    private static GluedHour republic(String text) {
        return Check.with(text);
    }

    /** "A REPUBLIC has HOURS, 2 .. 12 (8 at first)". */
    private static void hours() {
        CHECK.due("at first", republic("").republic(0, 0), 8);
        CHECK.due("the fewest", republic("hours 2;").republic(0, 0), 2);
        CHECK.due("the most", republic("hours 12;").republic(0, 0), 12);
        for (String wrong : new String[] {"0", "1", "13", "99", "999", "001"}) {
            CHECK.fault(0, "hours " + wrong + ";", 2, 6);
        }
    }

    /** "KINDS 0 .. 5 of deeds, each with a WORTH, -99 .. 99 (0), and a MODE: TWICE (0; at first)". */
    private static void kinds() {
        GluedHour x = republic("");
        CHECK.row("worth at first", 10, w -> x.republic(0, w), 0, 0, 0, 0, 0, 0);
        CHECK.row("mode at first", 20, w -> x.republic(0, w), 0, 0, 0, 0, 0, 0);
        GluedHour y = republic("gain 0 99 twice;loss 5 99 undone;gain 5 99 once;loss 0 99 once;gain 1 0 undone;loss 2 0 undone;");
        CHECK.row("worth", 10, w -> y.republic(0, w), -99, 0, 0, 0, 0, 99);
        CHECK.row("mode", 20, w -> y.republic(0, w), 1, 2, 2, 0, 0, 1);
        CHECK.due("the least worth of the last kind", republic("loss 5 99 undone;").republic(0, 15), -99);
        for (String verb : new String[] {"gain", "loss"}) {
            CHECK.good(0, verb + " 0 0 once;");
            CHECK.fault(0, verb + " 6 0 once;", 2, 5);
            CHECK.fault(0, verb + " 999 0 once;", 2, 5);
            CHECK.fault(0, verb + " 5 100 once;", 2, 7);
            CHECK.fault(0, verb + " 0 999 once;", 2, 7);
        }
    }

    /** "PEOPLE, at most 6, from 0 on: a PURSE, 0 .. 999". */
    private static void people() {
        GluedHour x = republic("person 0;person 999;person 1;person 2;person 3;person 4;");
        CHECK.due("six", x.republic(0, 1), 6);
        CHECK.row("purse", -1, p -> x.person(0, p, 0), -2, 0, 999, 1, 2, 3, 4, -2);
        CHECK.fault(0, "person 0;".repeat(6) + "person 0;", 3, 54);
        CHECK.fault(0, "person 1000;", 1, 7);
        CHECK.due("nobody at first", republic("").republic(0, 1), 0);
    }

    /** "a DEED of one in an hour: a KIND (none at first)", "does: who, hour, KIND; PEOPLE are 0 .. 5, hours 0 .. 11". */
    private static void deeds() {
        String six = "hours 12;" + "person 0;".repeat(6);
        GluedHour x = republic(six + "does 0 0 0;does 5 11 5;");
        CHECK.row("of the first", 10, w -> x.person(0, 0, w), 0, NONE, NONE, NONE, NONE, NONE, NONE, NONE, NONE, NONE, NONE, NONE);
        CHECK.row("of the last", 10, w -> x.person(0, 5, w), NONE, NONE, NONE, NONE, NONE, NONE, NONE, NONE, NONE, NONE, NONE, 5);
        CHECK.fault(0, six + "does 6 0 0;", 2, 68);
        CHECK.fault(0, six + "does 0 12 0;", 2, 70);
        CHECK.fault(0, six + "does 0 0 6;", 2, 72);
    }

    /** "a LOT of one: a weight, 0 .. 9, for each hour (1 at first)". */
    private static void lots() {
        String six = "hours 12;" + "person 0;".repeat(6);
        GluedHour x = republic(six + "lot 0 0 0;lot 5 11 9;");
        CHECK.row("of the first", 30, w -> x.person(0, 0, w), 0, 1, 1, 1, 1, 1, 1, 1, 1, 1, 1, 1);
        CHECK.row("of the last", 30, w -> x.person(0, 5, w), 1, 1, 1, 1, 1, 1, 1, 1, 1, 1, 1, 9);
        CHECK.fault(0, six + "lot 6 0 0;", 2, 67);
        CHECK.fault(0, six + "lot 0 12 0;", 2, 69);
        CHECK.fault(0, six + "lot 0 0 10;", 2, 71);
    }

    /** "A WEEK has DAYS, at most 14, from 0 on: an hour, 0 .. 11." */
    private static void weeks() {
        GluedHour x = Check.with(null, "stuck 0;" + "stuck 5;".repeat(12) + "stuck 11;");
        CHECK.due("fourteen", x.day(0, NONE), 14);
        CHECK.due("the first", x.day(0, 0), 0);
        CHECK.due("the last", x.day(0, 13), 11);
        CHECK.fault(1, "stuck 0;".repeat(15), 3, 112);
        CHECK.fault(1, "stuck 12;", 2, 6);
    }

    /** "ERRANDS are a row of at most 6: a KIND, an hour from, an hour to, 0 .. 11, not ahead of it." */
    private static void errands() {
        GluedHour x = Check.with(null, null, "errand 0 0 0;" + "errand 1 2 3;".repeat(4) + "errand 5 11 11;");
        CHECK.due("six", x.errand(0, NONE, 0), 6);
        CHECK.row("the first", 0, w -> x.errand(0, 0, w), 0, 0, 0);
        CHECK.row("the last", 0, w -> x.errand(0, 5, w), 5, 11, 11);
        CHECK.fault(2, "errand 0 0 0;".repeat(7), 3, 78);
        CHECK.fault(2, "errand 6 0 0;", 2, 7);
        CHECK.fault(2, "errand 0 12 12;", 2, 9);
        CHECK.fault(2, "errand 0 0 12;", 2, 11);
        CHECK.good(2, "errand 0 7 7;");
        CHECK.fault(2, "errand 0 7 6;", 2, 11);
        CHECK.fault(2, "errand 0 11 0;", 2, 12);
    }

    /** "A TABLE has TRAINS, at most 8, from 0 on: an hour, 0 .. 11, a RIDE, 1 .. 9." */
    private static void tables() {
        GluedHour x = Check.with(null, null, null, "train 0 1;" + "train 1 2;".repeat(6) + "train 11 9;");
        CHECK.due("eight", x.train(0, NONE, 0), 8);
        CHECK.row("the first", 0, w -> x.train(0, 0, w), 0, 1);
        CHECK.row("the last", 0, w -> x.train(0, 7, w), 11, 9);
        CHECK.fault(3, "train 0 1;".repeat(9), 3, 80);
        CHECK.fault(3, "train 12 1;", 2, 6);
        CHECK.fault(3, "train 0 0;", 2, 8);
        CHECK.fault(3, "train 0 10;", 2, 8);
    }

    /** "SIGHTS are a row of at most 6: DAYS, 1 .. 3, one of PEOPLE, 0 .. 5, a PURSE ('owes': below 0), 0 .. 999." */
    private static void sights() {
        GluedHour x = Check.with(null, null, null, null, "has 1 0 0;owes 3 5 999;has 3 5 999;owes 1 0 0;has 1 1 1;owes 1 1 1;");
        CHECK.due("six", x.sight(0, NONE, 0), 6);
        CHECK.row("has least", 0, w -> x.sight(0, 0, w), 1, 0, 0);
        CHECK.row("owes most", 0, w -> x.sight(0, 1, w), 3, 5, -999);
        CHECK.row("has most", 0, w -> x.sight(0, 2, w), 3, 5, 999);
        CHECK.row("owes least", 0, w -> x.sight(0, 3, w), 1, 0, 0);
        CHECK.row("the last", 0, w -> x.sight(0, 5, w), 1, 1, -1);
        CHECK.fault(4, "has 1 0 1;".repeat(6) + "has 1 0 1;", 3, 60);
        CHECK.fault(4, "has 1 0 1;".repeat(6) + "owes 1 0 1;", 3, 60);
        for (String verb : new String[] {"has ", "owes "}) {
            int at = verb.length();
            CHECK.fault(4, verb + "0 0 1;", 2, at);
            CHECK.fault(4, verb + "4 0 1;", 2, at);
            CHECK.fault(4, verb + "1 6 1;", 2, at + 2);
            CHECK.fault(4, verb + "1 0 1000;", 1, at + 4);
        }
    }

    /** "THE TAPE has at most 600 bytes": the last of them is read, and what follows is its end. */
    private static void tapeFull() {
        GluedHour x = new GluedHour();
        CHECK.due("told in the last bytes", Check.tell(x, 0, NONE, " ".repeat(591) + "hours 12;"), 0);
        CHECK.due("hours", x.republic(0, 0), 12);
        CHECK.fault(0, " ".repeat(600), 0, NONE);
        CHECK.fault(0, " ".repeat(592) + "hours 12", 1, 600);
        CHECK.fault(0, " ".repeat(595) + "hours", 1, 600);
        CHECK.fault(0, " ".repeat(599) + "?", 1, 599);
        CHECK.fault(0, " ".repeat(588) + "hours 8;1000", 1, 596);
        CHECK.fault(0, " ".repeat(589) + "does 0 0 0;", 4, 600);
        CHECK.fault(0, "hours 12;".repeat(66) + "hours;", 1, 599);
    }

    /** A text may tell nothing: "{...}" of each sort. */
    private static void tapeEmpty() {
        for (int sort = 0; sort < 5; sort++) {
            CHECK.good(sort, "");
            CHECK.good(sort, " ");
            CHECK.good(sort, "\n");
            CHECK.fault(sort, ";", 1, 0);
            CHECK.fault(sort, "0", 1, 0);
            CHECK.fault(sort, " a", 1, 1);
        }
    }

    /** "TOKENS, as long as they go": a word ends where no letter follows, a NUMBER where no digit does. */
    private static void tokensGoOn() {
        CHECK.good(0, "hours8;gain0 1once;");
        CHECK.due("12 is one number", republic("hours 12;").republic(0, 0), 12);
        CHECK.fault(0, "gain 01 once;", 1, 8);
        CHECK.fault(0, "hoursa 8;", 1, 0);
        CHECK.fault(0, "hoursz 8;", 1, 0);
        CHECK.fault(0, "hour 8;", 1, 0);
        CHECK.fault(0, "gain 0 1 oncea;", 1, 9);
        CHECK.fault(0, "gain 0 1 oncez;", 1, 9);
        CHECK.fault(0, "gain 0 1 onc;", 1, 9);
        CHECK.fault(0, "gain 0 1 once once;", 1, 14);
        CHECK.fault(0, "hourshours 8;", 1, 0);
    }

    /** "blanks (10, 32) between": any number of them, between any two, and no other byte. */
    private static void blanks() {
        CHECK.good(0, "\n hours \n\n 8 \n;\n gain\n0\n1\nonce\n;  ");
        CHECK.fault(0, "ho urs 8;", 1, 0);
        CHECK.fault(0, "hours 1 2;", 1, 8);
        for (int other : new int[] {0, 9, 11, 13, 31, 33, 127, 128, 138, 160, 255}) {
            CHECK.fault(0, "hours" + (char) other + "8;", 1, 5);
            CHECK.fault(0, "hours 8;" + (char) other, 1, 8);
        }
    }

    /** "NUMBERS, 1 to 3 digits"; "a longer row of digits is no token". */
    private static void digits() {
        for (String eight : new String[] {"8", "08", "008"}) {
            CHECK.due("hours of " + eight, republic("hours " + eight + ";").republic(0, 0), 8);
        }
        CHECK.due("three digits", republic("person 999;").person(0, 0, 0), 999);
        CHECK.due("three noughts", republic("person 000;").person(0, 0, 0), 0);
        CHECK.fault(0, "hours 0008;", 1, 6);
        CHECK.fault(0, "hours 00000000000000000008;", 1, 6);
        CHECK.fault(0, "person 4294967296;", 1, 7);
        CHECK.fault(0, "hours 8 0008;", 1, 8);
        CHECK.fault(0, "hours 8;0008", 1, 8);
        CHECK.fault(0, "hours 0008", 1, 6);
    }

    /** "words, rows of letters a .. z; NUMBERS; ; one byte": the bytes next to those are of no token. */
    private static void otherBytes() {
        for (int other : new int[] {'`', '{', '/', ':', '<', 'A', 'Z', '-', '+', '.', ','}) {
            CHECK.fault(0, (char) other + "hours 8;", 1, 0);
            CHECK.fault(0, "hours" + (char) other + " 8;", 1, 5);
            CHECK.fault(0, "hours 8" + (char) other + ";", 1, 7);
        }
        CHECK.fault(0, "hours 8;;", 1, 8);
        CHECK.fault(0, "hours;8;", 1, 5);
    }

    /** "Later ones strike". */
    private static void strike() {
        GluedHour x = republic("hours 12;hours 2;gain 0 5 undone;gain 0 6 once;loss 0 7 twice;person 0;does 0 1 0;does 0 1 5;"
            + "lot 0 1 9;lot 0 1 0;");
        CHECK.due("hours", x.republic(0, 0), 2);
        CHECK.due("worth", x.republic(0, 10), -7);
        CHECK.due("mode", x.republic(0, 20), 0);
        CHECK.due("deed", x.person(0, 0, 11), 5);
        CHECK.due("weight", x.person(0, 0, 31), 0);
        CHECK.due("a gain behind a loss", republic("loss 0 7 twice;gain 0 0 undone;").republic(0, 10), 0);
    }

    /** "but PEOPLE, DAYS, ERRANDS, TRAINS, SIGHTS, which are further ones." */
    private static void furtherOnes() {
        GluedHour x = Check.with("person 7;person 7;", "stuck 1;stuck 1;", "errand 0 0 1;errand 0 0 1;", "train 1 1;train 1 1;",
            "has 1 0 1;has 1 0 1;");
        CHECK.due("people", x.republic(0, 1), 2);
        CHECK.due("days", x.day(0, NONE), 2);
        CHECK.due("errands", x.errand(0, NONE, 0), 2);
        CHECK.due("trains", x.train(0, NONE, 0), 2);
        CHECK.due("sights", x.sight(0, NONE, 0), 2);
    }

    /** "places (a token's first byte; the end's)": a text that breaks off has its FAULT at the end, behind blanks, too. */
    private static void breaksOff() {
        String[][] lines = {{"hours", "8"}, {"gain", "0", "1", "once"}, {"loss", "0", "1", "undone"}, {"person", "1"}, {"does", "0", "0", "0"},
            {"lot", "0", "0", "0"}, {"stuck", "0"}, {"errand", "0", "0", "0"}, {"train", "0", "1"}, {"has", "1", "0", "0"}, {"owes", "1", "0", "0"}};
        int[] sorts = {0, 0, 0, 0, 0, 0, 1, 2, 3, 4, 4};
        for (int i = 0; i < lines.length; i++) {
            String text = "";
            for (String token : lines[i]) {
                text += token;
                CHECK.fault(sorts[i], text, 1, text.length());
                CHECK.fault(sorts[i], text + " \n", 1, text.length() + 2);
                text += " ";
                // Nor does a text go on with what the line has not there.
                CHECK.fault(sorts[i], text + "?", 1, text.length());
                CHECK.fault(sorts[i], text + "word", 1, text.length());
            }
            CHECK.fault(sorts[i], text + "1;", 1, text.length());
        }
    }

    /** Each sort has its own words: "A REPUBLIC's text", "A WEEK's text" and so on. */
    private static void wordsOfOtherSorts() {
        String[] lines = {"hours 8;", "gain 0 1 once;", "loss 0 1 once;", "person 0;", "stuck 0;", "errand 0 0 0;", "train 0 1;", "has 1 0 0;",
            "owes 1 0 0;"};
        int[] sorts = {0, 0, 0, 0, 1, 2, 3, 4, 4};
        for (int i = 0; i < lines.length; i++) {
            for (int sort = 0; sort < 5; sort++) {
                CHECK.fault(sort, lines[i], sort == sorts[i] ? 0 : 1, sort == sorts[i] ? NONE : 0);
            }
        }
        CHECK.fault(0, "twice;", 1, 0);
        CHECK.fault(0, "gain 0 1 gain;", 1, 9);
    }

    /** "1 the first byte or token with which no text goes on. If there is none, the first by place". */
    private static void faultOneFirst() {
        CHECK.fault(0, "hours 99;?", 1, 9);
        CHECK.fault(0, "hours 99;? ?", 1, 9);
        CHECK.fault(0, "does 0 0 0;hours 99", 1, 19);
        CHECK.fault(0, "person 0;".repeat(7) + ";", 1, 63);
        CHECK.fault(1, "stuck 0;".repeat(15) + "stuck 12 12;", 1, 129);
    }

    /** "the first by place": of several NUMBERS the first, of one line and of several. */
    private static void firstByPlace() {
        CHECK.fault(0, "does 6 12 6;", 2, 5);
        CHECK.fault(0, "does 5 12 6;", 2, 7);
        CHECK.fault(0, "does 5 11 6;", 2, 10);
        CHECK.fault(0, "hours 8;hours 13;hours 1;", 2, 14);
        CHECK.fault(0, "hours 13;" + "person 0;".repeat(7), 2, 6);
        CHECK.fault(0, "person 0;".repeat(7) + "hours 13;", 3, 54);
        CHECK.fault(2, "errand 0 12 11;", 2, 9);
        CHECK.fault(2, "errand 6 3 2;", 2, 7);
    }

    /** "a line with such a NUMBER tells its one of PEOPLE, DAY, ERRAND, TRAIN, SIGHT all the same": the first by place stays. */
    private static void tellsAllTheSame() {
        CHECK.fault(1, "stuck 12;" + "stuck 0;".repeat(14), 2, 6);
        CHECK.fault(2, "errand 6 0 0;" + "errand 0 0 0;".repeat(6), 2, 7);
        CHECK.fault(3, "train 0 0;" + "train 0 1;".repeat(8), 2, 8);
        CHECK.fault(4, "has 4 0 0;" + "has 1 0 0;".repeat(6), 2, 4);
    }

    /** "3 a 7th of PEOPLE, a 15th DAY, a 7th ERRAND, a 9th TRAIN, a 7th SIGHT, at its first token." */
    private static void tooManyAtFirstToken() {
        CHECK.fault(0, "person 0;".repeat(6) + "  person 0;", 3, 56);
        CHECK.fault(1, "stuck 0;".repeat(14) + "\nstuck 12;", 3, 113);
        CHECK.fault(2, "errand 0 0 0;".repeat(6) + " errand 6 3 2;", 3, 79);
        CHECK.fault(3, "train 0 1;".repeat(8) + " train 12 0;", 3, 81);
        CHECK.fault(4, "has 1 0 0;".repeat(6) + " owes 0 6 0;", 3, 61);
        CHECK.fault(0, "person 0;".repeat(9), 3, 54);
        CHECK.fault(0, "person 0;".repeat(6) + "hours 2;lot 5 1 0;person 0;", 3, 72);
    }

    /** "If there is none of these, at the end's place: 4". */
    private static void notThereLast() {
        CHECK.fault(0, "does 0 0 0;?", 1, 11);
        CHECK.fault(0, "does 0 0 0;hours 1;", 2, 17);
        CHECK.fault(0, "does 0 8 0;" + "person 0;".repeat(7), 3, 65);
        CHECK.fault(0, "does 0 0 0;", 4, 11);
        CHECK.fault(0, "does 0 0 0;\n", 4, 12);
    }

    /** "4 of a REPUBLIC an hour or one of PEOPLE that was told of and is not there": as it is at the end. */
    private static void notThereAtTheEnd() {
        CHECK.good(0, "person 0;does 0 7 0;lot 0 7 0;");
        CHECK.fault(0, "person 0;does 0 8 0;", 4, 20);
        CHECK.fault(0, "person 0;lot 0 8 0;", 4, 19);
        CHECK.fault(0, "person 0;does 1 0 0;", 4, 20);
        CHECK.fault(0, "person 0;lot 1 0 0;", 4, 19);
        CHECK.good(0, "does 0 11 0;lot 0 11 0;hours 12;person 0;");
        CHECK.fault(0, "hours 12;person 0;does 0 11 0;hours 11;", 4, 39);
        CHECK.fault(0, "hours 12;person 0;lot 0 11 0;hours 11;", 4, 38);
        CHECK.good(0, "hours 2;person 0;does 0 11 0;hours 12;");
        CHECK.fault(0, "person 0;does 0 8 0;does 0 7 0;", 4, 31);
        CHECK.fault(0, "person 0;lot 1 7 0;lot 0 0 0;", 4, 29);
        // Hours of others than REPUBLICS need none, and a REPUBLIC's FAULT is none of theirs.
        GluedHour x = new GluedHour();
        Check.tell(x, 0, NONE, "does 5 11 0;");
        CHECK.due("a week behind it", Check.tell(x, 1, NONE, "stuck 11;"), 0);
        CHECK.due("a republic behind it", Check.tell(x, 0, NONE, ""), 0);
    }

    /** "REPUBLICS, at most 2, WEEKS, at most 2, rows of ERRANDS, at most 2, TABLES, at most 2, rows of SIGHTS, at most 2". */
    private static void atMostTwo() {
        GluedHour x = new GluedHour();
        for (int sort = 0; sort < 5; sort++) {
            CHECK.due("first", x.text(sort, NONE), 0);
            CHECK.due("second", x.text(sort, NONE), 1);
            CHECK.due("third", x.text(sort, NONE), -2);
            CHECK.due("in the place of the third", x.text(sort, 2), -2);
            CHECK.due("count", x.count(sort), 2);
            CHECK.due("in the place of the second", x.text(sort, 1), 1);
            CHECK.due("count then", x.count(sort), 2);
        }
    }
}
