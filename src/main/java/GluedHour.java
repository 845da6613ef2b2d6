/**
 * The hour glued to the day. The document (../shared/DOC.md) says what each call answers; the
 * public methods stand here in the order of its promises.
 */
public final class GluedHour {
    public static final int NONE = -1;

    // What calls answer for something that is not there: each promise names its own.
    private static final int NO_SUCH = -2;
    private static final int NO_FIGURE = -1000;
    private static final int NO_AMOUNT = -1000000;

    private static final int TAPE_MOST = 600;
    private static final int FEED_BYTES = 20;
    private static final int HOURS_MOST = 12;
    private static final int KINDS = 6;
    private static final int PEOPLE_MOST = 6;
    private static final int ERRANDS_MOST = 6;
    private static final int SEEN_DAYS_MOST = 3;
    private static final int LIKELY_DAYS_MOST = 6;
    private static final int HOPE_DAYS_MOST = 2;
    private static final int LONG_DAYS_MOST = 60;
    private static final int IMAGES = 3;
    private static final int NO_SLACK = 1000;

    private static final int TWICE = 0;
    private static final int ONCE = 1;
    private static final int UNDONE = 2;
    private static final int MODES = 3;

    private static final int REPUBLICS = 0;
    private static final int WEEKS = 1;
    private static final int ERRANDS = 2;
    private static final int TABLES = 3;
    private static final int SIGHTS = 4;
    private static final int SORTS = 5;
    private static final int EACH_SORT = 2;
    // By sort: how many lines a text may tell, and how many numbers each has (a republic has none).
    private static final int[] LINES_MOST = {0, 14, 6, 8, 6};
    private static final int[] LINE_WIDTH = {0, 1, 3, 2, 3};

    private final Told told = new Told();
    private final Told[] images = new Told[IMAGES];
    private final Reader reader = new Reader(told.tape);
    private final Course course = new Course();
    private final Odds today = new Odds();
    private final Odds tomorrow = new Odds();
    private final Planner planner = new Planner();
    private final Search search = new Search();
    private final Fraction sum = new Fraction();

    public GluedHour() {
    }

    public int feed(int a, int b, int c, int d, int e) {
        if (told.length + FEED_BYTES > TAPE_MOST) {
            return NONE;
        }
        told.append(a);
        told.append(b);
        told.append(c);
        told.append(d);
        told.append(e);
        return told.length;
    }

    public int end(int n) {
        if (n < 0 || n > told.length) {
            return NONE;
        }
        told.length = n;
        return n;
    }

    public int text(int sort, int at) {
        // Whatever becomes of it, the tape is taken: it is empty behind each text().
        int length = told.length;
        told.length = 0;
        told.fault = 0;
        told.place = NONE;
        if (sort < 0 || sort >= SORTS) {
            return NO_SUCH;
        }
        int size = told.sizes[sort];
        int number = at == NONE ? size : at;
        boolean there = at == NONE ? size < EACH_SORT : at >= 0 && at < size;
        if (!there) {
            return NO_SUCH;
        }
        reader.read(length, sort);
        told.fault = reader.fault;
        told.place = reader.place;
        if (told.fault != 0) {
            return NONE;
        }
        told.take(reader, sort, number);
        return number;
    }

    public int fault(int what) {
        if (what == 0) {
            return told.fault;
        }
        return what == 1 ? told.place : NONE;
    }

    public int republic(int republic, int what) {
        Republic r = begun(republic);
        if (r == null) {
            return NO_FIGURE;
        }
        if (what >= 10 && what < 10 + KINDS) {
            return r.worthOf(what - 10);
        }
        if (what >= 20 && what < 20 + KINDS) {
            return r.modeOf(what - 20);
        }
        switch (what) {
            case 0:
                return r.hours;
            case 1:
                return r.people;
            case 2:
                return course.poorest();
            default:
                return NO_FIGURE;
        }
    }

    public int person(int republic, int person, int what) {
        Republic r = told.republicAt(republic);
        if (r == null || !r.hasPerson(person)) {
            return NO_SUCH;
        }
        if (what == 0) {
            return r.purses[person];
        }
        if (what >= 10 && what < 10 + r.hours) {
            return r.deedAt(person, what - 10);
        }
        if (what >= 30 && what < 30 + r.hours) {
            return r.lotAt(person, what - 30);
        }
        return NO_SUCH;
    }

    public int value(int republic, int person, int hour) {
        Republic r = begun(republic);
        if (r == null || !r.hasPersonOrAll(person) || !r.hasHour(hour)) {
            return NO_AMOUNT;
        }
        return course.brings(person, hour);
    }

    public int odds(int republic, int hour, boolean under) {
        Republic r = begun(republic);
        if (r == null || !r.hasHour(hour)) {
            return NONE;
        }
        return (int) Fraction.side(today.weights[hour], today.total, under);
    }

    public int day(int week, int k) {
        Lines days = told.linesAt(WEEKS, week);
        if (days == null) {
            return NO_SUCH;
        }
        if (k == NONE) {
            return days.size;
        }
        return days.has(k) ? days.cell(k, 0) : NO_SUCH;
    }

    public int purse(int republic, int week, int n, int person) {
        Republic r = begun(republic);
        Lines days = told.linesAt(WEEKS, week);
        if (r == null || !r.hasPersonOrAll(person) || stops(r, days, n)) {
            return NO_AMOUNT;
        }
        for (int d = 0; d < n; d++) {
            course.live(days.cell(d, 0));
        }
        return person == NONE ? course.poorest() : course.have[person];
    }

    public long likely(int republic, int week, int n, boolean under) {
        Republic r = begun(republic);
        Lines days = told.linesAt(WEEKS, week);
        if (r == null || n > LIKELY_DAYS_MOST || stops(r, days, n)) {
            return NONE;
        }
        long above = 1;
        long below = 1;
        for (int d = 0; d < n; d++) {
            int hour = days.cell(d, 0);
            today.weigh(r, course.poorest());
            above *= today.weights[hour];
            below *= today.total;
            course.live(hour);
        }
        return Fraction.side(above, below, under);
    }

    public int drawn(int republic, int seed, int n, int what) {
        Republic r = begun(republic);
        if (r == null || n < 0 || n > LONG_DAYS_MOST) {
            return NO_AMOUNT;
        }
        int counted = what - 20;
        int times = 0;
        int hour = NONE;
        int x = seed;
        for (int d = 0; d < n; d++) {
            today.weigh(r, course.poorest());
            x = x * 1103515245 + 12345;
            hour = today.hourOf(x >>> 16);
            course.live(hour);
            times += hour == counted ? 1 : 0;
        }
        if (r.hasPerson(what)) {
            return course.have[what];
        }
        if (what == 10) {
            return course.poorest();
        }
        if (what == 11) {
            return hour;
        }
        return r.hasHour(counted) ? times : NO_AMOUNT;
    }

    public int mean(int republic, int person, boolean under) {
        Republic r = begun(republic);
        if (r == null || !r.hasPerson(person)) {
            return NO_AMOUNT;
        }
        return (int) Fraction.side(course.weighed(person, today), today.total, under);
    }

    public int gain(int republic, int person, int hour, boolean under) {
        Republic r = begun(republic);
        if (r == null || !r.hasPerson(person) || !r.hasHour(hour)) {
            return NO_AMOUNT;
        }
        return (int) Fraction.side(gainBy(person, hour), today.total, under);
    }

    public int wish(int republic, int person) {
        Republic r = begun(republic);
        return r == null || !r.hasPersonOrAll(person) ? NONE : course.bestHour(person);
    }

    public int buyer(int republic, int what) {
        Republic r = begun(republic);
        if (r == null || r.people == 0 || what < 0 || what > 2) {
            return NO_AMOUNT;
        }
        int buyer = 0;
        long most = gainBy(0, course.bestHour(0));
        long price = 0;
        for (int p = 1; p < r.people; p++) {
            long gain = gainBy(p, course.bestHour(p));
            // No gain by a wish is below 0, so 0 is a safe price to begin with.
            if (gain > most) {
                price = most;
                most = gain;
                buyer = p;
            } else {
                price = Math.max(price, gain);
            }
        }
        return what == 0 ? buyer : (int) Fraction.side(price, today.total, what == 2);
    }

    public int promise(int republic, int person, int kind, boolean under) {
        Republic r = begun(republic);
        if (r == null || !r.hasPerson(person) || kind < 0 || kind >= KINDS) {
            return NO_AMOUNT;
        }
        long idle = 0;
        for (int h = 0; h < r.hours; h++) {
            idle += r.deedAt(person, h) == NONE ? today.weights[h] : 0;
        }
        long lived = r.worthOf(kind) + r.extraOf(kind);
        return (int) Fraction.side(idle * lived, today.total, under);
    }

    public int two(int republic, int person, int a, int b) {
        Republic r = told.republicAt(republic);
        if (r == null || !r.hasPerson(person) || !r.hasHour(a) || !r.hasHour(b)) {
            return NO_AMOUNT;
        }
        int kind = r.deedAt(person, a);
        int extra = r.extraOf(kind);
        if (a != b) {
            extra += r.extraOf(r.deedAt(person, b));
        } else if (r.modeOf(kind) == TWICE) {
            // Lived three times: once more than twice. What is undone is undone but once.
            extra += extra;
        }
        return r.worthOfDeeds(person) + extra;
    }

    public int shift(int republic, int person, int what) {
        Republic r = begun(republic);
        if (r == null || !r.hasPerson(person) || what < 0 || what > 3) {
            return NO_AMOUNT;
        }
        int from = NONE;
        int to = NONE;
        long most = 0;
        for (int a = 0; a < r.hours; a++) {
            int extra = r.extraOf(r.deedAt(person, a));
            for (int b = 0; b < r.hours; b++) {
                // Where there is no deed to go, extra is 0 and nothing rises.
                long rise = (long) extra * (today.weights[b] - today.weights[a]);
                if (r.deedAt(person, b) == NONE && rise > most) {
                    most = rise;
                    from = a;
                    to = b;
                }
            }
        }
        if (what < 2) {
            return what == 0 ? from : to;
        }
        return (int) Fraction.side(course.weighed(person, today) + most, today.total, what == 3);
    }

    public int feud(int republic, int what) {
        Republic r = begun(republic);
        if (r == null || what < 0 || what > 2) {
            return NONE;
        }
        int first = 0;
        int second = 1;
        int most = course.apart(0, 1);
        for (int a = 0; a < r.hours; a++) {
            for (int b = a + 1; b < r.hours; b++) {
                int apart = course.apart(a, b);
                if (apart > most) {
                    most = apart;
                    first = a;
                    second = b;
                }
            }
        }
        if (what == 2) {
            return most;
        }
        return what == 0 ? first : second;
    }

    public int errand(int errands, int k, int what) {
        return told.lineCell(ERRANDS, errands, k, what, NO_SUCH);
    }

    public int plan(int republic, int errands, int what) {
        Republic r = begun(republic);
        Lines row = told.linesAt(ERRANDS, errands);
        if (r == null || row == null || !planner.planBlind(r, today, row)) {
            return NO_AMOUNT;
        }
        if (what >= 10) {
            return row.has(what - 10) ? planner.blind[what - 10] : NO_AMOUNT;
        }
        switch (what) {
            case 0:
            case 1:
                return (int) Fraction.side(planner.blindWorth, today.total, what == 1);
            case 2:
            case 3:
                planner.planKnowing(r, today, row);
                return (int) Fraction.side(planner.knowingWorth, today.total, what == 3);
            case 4:
            case 5:
                planner.planKnowing(r, today, row);
                return (int) Fraction.side(planner.knowingWorth - planner.blindWorth, today.total, what == 5);
            case 6:
                planner.planKnowing(r, today, row);
                return planner.regret;
            default:
                return NO_AMOUNT;
        }
    }

    public int train(int table, int k, int what) {
        return told.lineCell(TABLES, table, k, what, NO_SUCH);
    }

    public int holds(int republic, int table, int hour) {
        Republic r = told.republicAt(republic);
        Lines trains = told.linesAt(TABLES, table);
        if (r == null || trains == null || (hour != NONE && !r.hasHour(hour))) {
            return NO_FIGURE;
        }
        if (hour != NONE) {
            return keepsBy(trains, hour) ? 1 : 0;
        }
        int slack = NO_SLACK;
        for (int k = 0; k + 1 < trains.size; k++) {
            slack = Math.min(slack, slackOf(r, trains, k));
        }
        return slack;
    }

    public int clock(int republic, int table, int k, int hour) {
        Republic r = told.republicAt(republic);
        Lines trains = told.linesAt(TABLES, table);
        if (r == null || trains == null || !trains.has(k)) {
            return NONE;
        }
        if (hour < 0 || hour >= HOURS_MOST) {
            return leastHour(r, trains, k);
        }
        if (!r.hasHour(hour)) {
            return NONE;
        }
        int comes = trueTime(trains.cell(k, 0), hour) + trains.cell(k, 1);
        return comes > hour ? comes - 1 : comes;
    }

    public int sight(int sights, int k, int what) {
        return told.lineCell(SIGHTS, sights, k, what, NO_AMOUNT);
    }

    public int fits(int republic, int sights, int what) {
        Republic r = begun(republic);
        Lines seen = told.linesAt(SIGHTS, sights);
        if (r == null || seen == null) {
            return NO_SUCH;
        }
        search.run(r, course, seen);
        if (what == 0) {
            return search.rows;
        }
        if (what >= 10 && what < 10 + search.days) {
            return search.sureHour(what - 10);
        }
        if (what >= 20 && what < 20 + search.days) {
            return search.maybe[what - 20];
        }
        return NO_SUCH;
    }

    public int reign(int republic, int n, int what) {
        Republic r = begun(republic);
        if (r == null || n < 0 || n > LONG_DAYS_MOST) {
            return NO_AMOUNT;
        }
        int fall = NONE;
        int times = 0;
        int asked = NO_AMOUNT;
        for (int d = 0; d < n; d++) {
            int ruler = course.poorest();
            int hour = ruler == NONE ? 0 : course.bestHour(ruler);
            course.live(hour);
            fall = fall == NONE && course.poorest() != ruler ? d : fall;
            times += ruler == what - 20 ? 1 : 0;
            asked = d == what - 100 ? hour : asked;
        }
        if (r.hasPerson(what)) {
            return course.have[what];
        }
        if (what == 10) {
            return course.poorest();
        }
        if (what == 11) {
            return fall;
        }
        return r.hasPerson(what - 20) ? times : asked;
    }

    public long hope(int republic, int person, int n, boolean under) {
        return expected(republic, person, n, false) ? sum.sideOf(under) : NO_AMOUNT;
    }

    public long doom(int republic, int person, int n, boolean under) {
        return expected(republic, person, n, true) ? sum.sideOf(under) : NONE;
    }

    public int ruling(int republic, int what) {
        Republic r = begun(republic);
        if (r == null || what < 0 || what > 3) {
            return NO_AMOUNT;
        }
        long now = 0;
        for (int p = 0; p < r.people; p++) {
            now += course.weighed(p, today);
        }
        int kind = 0;
        int mode = 0;
        long most = now + changeBy(r, 0, 0);
        for (int k = 0; k < KINDS; k++) {
            for (int m = 0; m < MODES; m++) {
                long all = now + changeBy(r, k, m);
                if (all > most) {
                    most = all;
                    kind = k;
                    mode = m;
                }
            }
        }
        if (what < 2) {
            return what == 0 ? kind : mode;
        }
        return (int) Fraction.side(most, today.total, what == 3);
    }

    public int trust(int republic, int table, boolean under) {
        Republic r = begun(republic);
        Lines trains = told.linesAt(TABLES, table);
        if (r == null || trains == null) {
            return NONE;
        }
        long held = 0;
        for (int h = 0; h < r.hours; h++) {
            held += keepsBy(trains, h) ? today.weights[h] : 0;
        }
        return (int) Fraction.side(held, today.total, under);
    }

    public int tight(int republic, int table) {
        Republic r = told.republicAt(republic);
        Lines trains = told.linesAt(TABLES, table);
        if (r == null || trains == null || trains.size < 2) {
            return NONE;
        }
        int tight = 0;
        for (int k = 1; k + 1 < trains.size; k++) {
            tight = slackOf(r, trains, k) < slackOf(r, trains, tight) ? k : tight;
        }
        return tight;
    }

    public int free(int republic, int errands, boolean under) {
        Republic r = begun(republic);
        Lines row = told.linesAt(ERRANDS, errands);
        if (r == null || row == null || !planner.planBlind(r, today, row)) {
            return NO_AMOUNT;
        }
        if (!planner.choose(r, today, row, true)) {
            return NO_AMOUNT;
        }
        return (int) Fraction.side(planner.worth - planner.blindWorth, today.total, under);
    }

    public int count(int sort) {
        return sort < 0 || sort >= SORTS ? NO_SUCH : told.sizes[sort];
    }

    public boolean image(int k) {
        if (k < 0 || k >= IMAGES) {
            return false;
        }
        Told image = images[k];
        if (image == null) {
            image = new Told();
            images[k] = image;
        }
        image.copy(told);
        return true;
    }

    public boolean again(int k) {
        if (k < 0 || k >= IMAGES) {
            return false;
        }
        Told image = images[k];
        if (image == null) {
            return false;
        }
        told.copy(image);
        return true;
    }

    /** The republic, with its course at today and today's odds; null if there is none such. */
    private Republic begun(int k) {
        Republic r = told.republicAt(k);
        if (r != null) {
            course.begin(r);
            today.weigh(r, course.poorest());
        }
        return r;
    }

    /** Whether n days of the week can't be: it has not so many, or one's hour is not there. */
    private static boolean stops(Republic r, Lines days, int n) {
        if (days == null || n < 0 || n > days.size) {
            return true;
        }
        for (int d = 0; d < n; d++) {
            if (!r.hasHour(days.cell(d, 0))) {
                return true;
            }
        }
        return false;
    }

    /** GAIN, times all weights of today. */
    private long gainBy(int person, int hour) {
        return (long) course.brings(person, hour) * today.total - course.weighed(person, today);
    }

    /** What all means together, times all weights of today, change by a mode of a kind. */
    private long changeBy(Republic r, int kind, int mode) {
        long weight = 0;
        for (int p = 0; p < r.people; p++) {
            for (int h = 0; h < r.hours; h++) {
                weight += r.deedAt(p, h) == kind ? today.weights[h] : 0;
            }
        }
        return weight * (r.extraBy(kind, mode) - r.extraOf(kind));
    }

    /** What one's purse, or that he is the poorest, is after n days, into sum; false if there is none such. */
    private boolean expected(int republic, int person, int n, boolean asPoorest) {
        Republic r = begun(republic);
        if (r == null || !r.hasPerson(person) || n < 0 || n > HOPE_DAYS_MOST) {
            return false;
        }
        sum.put(0, 1);
        if (n == 0) {
            sum.put(course.measure(person, asPoorest), 1);
        } else if (n == 1) {
            sum.put(nextDay(r, today, person, asPoorest), today.total);
        } else {
            for (int h = 0; h < r.hours; h++) {
                course.live(h);
                tomorrow.weigh(r, course.poorest());
                long then = nextDay(r, tomorrow, person, asPoorest);
                course.unlive(h);
                sum.add(today.weights[h] * then, (long) today.total * tomorrow.total);
            }
        }
        return true;
    }

    /** What is to be expected behind the next day, times all weights of its odds. */
    private long nextDay(Republic r, Odds odds, int person, boolean asPoorest) {
        long all = 0;
        for (int h = 0; h < r.hours; h++) {
            course.live(h);
            all += (long) odds.weights[h] * course.measure(person, asPoorest);
            course.unlive(h);
        }
        return all;
    }

    private static int trueTime(int hour, int stuck) {
        return hour > stuck ? hour + 1 : hour;
    }

    /** By how much a train at an hour, with a ride, comes ahead of the next one. */
    private static int lead(int hour, int ride, int next, int stuck) {
        return trueTime(next, stuck) - trueTime(hour, stuck) - ride;
    }

    /** The lead of train k, which has a next one. */
    private static int leadOf(Lines trains, int k, int stuck) {
        return lead(trains.cell(k, 0), trains.cell(k, 1), trains.cell(k + 1, 0), stuck);
    }

    private static boolean keepsBy(Lines trains, int stuck) {
        for (int k = 0; k + 1 < trains.size; k++) {
            if (leadOf(trains, k, stuck) < 0) {
                return false;
            }
        }
        return true;
    }

    /** The least lead of train k, whichever hour of the republic is stuck. */
    private static int slackOf(Republic r, Lines trains, int k) {
        int least = NO_SLACK;
        for (int h = 0; h < r.hours; h++) {
            least = Math.min(least, leadOf(trains, k, h));
        }
        return least;
    }

    /** The hour of train k in the least table. */
    private static int leastHour(Republic r, Lines trains, int k) {
        int hour = trains.cell(0, 0);
        for (int i = 0; i < k; i++) {
            hour = leastNext(r, hour, trains.cell(i, 1));
        }
        return hour;
    }

    private static int leastNext(Republic r, int hour, int ride) {
        // At hour + ride it always holds; ahead of that only where every stuck hour is passed.
        for (int next = hour; next < hour + ride; next++) {
            boolean holds = true;
            for (int h = 0; h < r.hours; h++) {
                holds = holds && lead(hour, ride, next, h) >= 0;
            }
            if (holds) {
                return next;
            }
        }
        return hour + ride;
    }

    /** All that is told: what an image keeps. */
    private static final class Told {
        final byte[] tape = new byte[TAPE_MOST];
        final int[] sizes = new int[SORTS];
        final Republic[] republics = new Republic[EACH_SORT];
        final Lines[] lines = new Lines[SORTS * EACH_SORT];
        int length = 0;
        int fault = 0;
        int place = NONE;

        Told() {
            for (int k = 0; k < EACH_SORT; k++) {
                republics[k] = new Republic();
                for (int sort = WEEKS; sort < SORTS; sort++) {
                    lines[sort * EACH_SORT + k] = new Lines(sort);
                }
            }
        }

        void append(int four) {
            for (int shift = 24; shift >= 0 && length < TAPE_MOST; shift -= 8) {
                tape[length] = (byte) (four >> shift);
                length++;
            }
        }

        Republic republicAt(int k) {
            return k < 0 || k >= sizes[REPUBLICS] || k >= EACH_SORT ? null : republics[k];
        }

        Lines linesAt(int sort, int k) {
            if (sort < WEEKS || sort >= SORTS || k < 0 || k >= sizes[sort] || k >= EACH_SORT) {
                return null;
            }
            return lines[sort * EACH_SORT + k];
        }

        /** How many lines there are (k NONE, what 0), or a number of the k-th. */
        int lineCell(int sort, int number, int k, int what, int without) {
            Lines row = linesAt(sort, number);
            if (row == null) {
                return without;
            }
            if (k == NONE && what == 0) {
                return row.size;
            }
            return row.has(k) && what >= 0 && what < row.width ? row.cell(k, what) : without;
        }

        /** Takes what the reader has read as the one of that number, a further one or not. */
        void take(Reader reader, int sort, int number) {
            if (sort < 0 || sort >= SORTS || number < 0 || number >= EACH_SORT) {
                return;
            }
            sizes[sort] = Math.max(sizes[sort], number + 1);
            if (sort == REPUBLICS) {
                copyRepublic(reader.republic, republics[number]);
            } else {
                copyLines(reader.drafts[sort], lines[sort * EACH_SORT + number]);
            }
        }

        void copy(Told from) {
            System.arraycopy(from.tape, 0, tape, 0, TAPE_MOST);
            System.arraycopy(from.sizes, 0, sizes, 0, SORTS);
            for (int k = 0; k < EACH_SORT; k++) {
                copyRepublic(from.republics[k], republics[k]);
            }
            for (int i = 0; i < SORTS * EACH_SORT; i++) {
                copyLines(from.lines[i], lines[i]);
            }
            length = from.length;
            fault = from.fault;
            place = from.place;
        }

        private static void copyRepublic(Republic from, Republic to) {
            if (from != null && to != null) {
                to.copy(from);
            }
        }

        private static void copyLines(Lines from, Lines to) {
            if (from != null && to != null) {
                to.copy(from);
            }
        }
    }

    /** A republic as its text tells it. */
    private static final class Republic {
        final int[] worths = new int[KINDS];
        final int[] modes = new int[KINDS];
        final int[] purses = new int[PEOPLE_MOST];
        final int[] deeds = new int[PEOPLE_MOST * HOURS_MOST];
        final int[] lots = new int[PEOPLE_MOST * HOURS_MOST];
        int hours;
        int people;

        Republic() {
            clear();
        }

        void clear() {
            hours = 8;
            people = 0;
            for (int k = 0; k < KINDS; k++) {
                worths[k] = 0;
                modes[k] = TWICE;
            }
            for (int i = 0; i < PEOPLE_MOST * HOURS_MOST; i++) {
                deeds[i] = NONE;
                lots[i] = 1;
            }
        }

        void copy(Republic from) {
            System.arraycopy(from.worths, 0, worths, 0, KINDS);
            System.arraycopy(from.modes, 0, modes, 0, KINDS);
            System.arraycopy(from.purses, 0, purses, 0, PEOPLE_MOST);
            System.arraycopy(from.deeds, 0, deeds, 0, PEOPLE_MOST * HOURS_MOST);
            System.arraycopy(from.lots, 0, lots, 0, PEOPLE_MOST * HOURS_MOST);
            hours = from.hours;
            people = from.people;
        }

        boolean hasHour(int hour) {
            return hour >= 0 && hour < hours;
        }

        boolean hasPerson(int person) {
            return person >= 0 && person < people;
        }

        boolean hasPersonOrAll(int person) {
            return person == NONE || hasPerson(person);
        }

        int deedAt(int person, int hour) {
            return hasPerson(person) && hasHour(hour) ? deeds[person * HOURS_MOST + hour] : NONE;
        }

        int lotAt(int person, int hour) {
            return hasPerson(person) && hasHour(hour) ? lots[person * HOURS_MOST + hour] : 0;
        }

        int worthOf(int kind) {
            return kind < 0 || kind >= KINDS ? 0 : worths[kind];
        }

        int modeOf(int kind) {
            return kind < 0 || kind >= KINDS ? ONCE : modes[kind];
        }

        /** What a kind (none: NONE) is worth more in the stuck hour than in another one. */
        int extraOf(int kind) {
            return extraBy(kind, modeOf(kind));
        }

        int extraBy(int kind, int mode) {
            switch (mode) {
                case TWICE:
                    return worthOf(kind);
                case UNDONE:
                    return -worthOf(kind);
                default:
                    return 0;
            }
        }

        int worthOfDeeds(int person) {
            int all = 0;
            for (int h = 0; h < hours; h++) {
                all += worthOf(deedAt(person, h));
            }
            return all;
        }
    }

    /** A week, a row of errands, a table or a row of sights: lines of numbers. */
    private static final class Lines {
        final int most;
        final int width;
        final int[] cells;
        int size = 0;

        Lines(int sort) {
            boolean known = sort >= 0 && sort < SORTS;
            most = known ? LINES_MOST[sort] : 0;
            width = known ? LINE_WIDTH[sort] : 0;
            cells = new int[most * width];
        }

        boolean has(int k) {
            return k >= 0 && k < size;
        }

        int cell(int k, int column) {
            return has(k) && column >= 0 && column < width ? cells[k * width + column] : 0;
        }

        boolean isFull() {
            return size >= most;
        }

        void add(int[] numbers) {
            if (isFull() || numbers.length < width) {
                return;
            }
            System.arraycopy(numbers, 0, cells, size * width, width);
            size++;
        }

        void copy(Lines from) {
            if (from.cells.length == cells.length) {
                System.arraycopy(from.cells, 0, cells, 0, cells.length);
                size = from.size;
            }
        }
    }

    /** Reads the tape as a text of a sort into a draft, and finds its fault. */
    private static final class Reader {
        private static final int END = 0;
        private static final int WORD = 1;
        private static final int NUMBER = 2;
        private static final int SEMICOLON = 3;
        private static final int NO_TOKEN = 4;

        private static final int HOURS = 0;
        private static final int GAIN = 1;
        private static final int LOSS = 2;
        private static final int PERSON = 3;
        private static final int DOES = 4;
        private static final int LOT = 5;
        private static final int ERRAND = 7;
        private static final int OWES = 10;
        private static final int VERBS = 11;
        // By verb: its sort, how many numbers follow, and of each (three a verb) the least and the most.
        private static final int[] VERB_SORT = {0, 0, 0, 0, 0, 0, 1, 2, 3, 4, 4};
        private static final int[] NUMBERS = {1, 2, 2, 1, 3, 3, 1, 3, 2, 3, 3};
        private static final int[] LOWEST = {
            2, 0, 0, 0, 0, 0, 0, 0, 0, 0, 0, 0, 0, 0, 0, 0, 0, 0, 0, 0, 0, 0, 0, 0, 0, 1, 0, 1, 0, 0, 1, 0, 0};
        private static final int[] HIGHEST = {
            12, 0, 0, 5, 99, 0, 5, 99, 0, 999, 0, 0, 5, 11, 5, 5, 11, 9,
            11, 0, 0, 5, 11, 11, 11, 9, 0, 3, 5, 999, 3, 5, 999};

        final byte[] tape;
        final Republic republic = new Republic();
        final Lines[] drafts = new Lines[SORTS];
        final int[] numbers = new int[3];
        int fault = 0;
        int place = NONE;
        // The token read last: what it is, its first byte, the byte behind it.
        int token = END;
        int start = 0;
        int at = 0;
        int number = 0;
        int mode = TWICE;
        int length = 0;
        int lastHourTold = NONE;
        int lastPersonTold = NONE;

        Reader(byte[] tape) {
            this.tape = tape;
            for (int sort = WEEKS; sort < SORTS; sort++) {
                drafts[sort] = new Lines(sort);
            }
        }

        /** Reads the first bytes of the tape; fault and place say what was wrong. */
        void read(int bytes, int sort) {
            begin(bytes, sort);
            step();
            for (int i = 0; i <= TAPE_MOST && token != END; i++) {
                if (!readLine(sort)) {
                    fault = 1;
                    place = start;
                    return;
                }
                step();
            }
            if (lastHourTold >= republic.hours || lastPersonTold >= republic.people) {
                note(4, length);
            }
        }

        private void begin(int bytes, int sort) {
            length = Math.max(0, Math.min(bytes, tape.length));
            at = 0;
            fault = 0;
            place = NONE;
            lastHourTold = NONE;
            lastPersonTold = NONE;
            republic.clear();
            Lines draft = draftOf(sort);
            if (draft != null) {
                draft.size = 0;
            }
        }

        private Lines draftOf(int sort) {
            return sort < 0 || sort >= SORTS ? null : drafts[sort];
        }

        private void note(int what, int where) {
            if (fault == 0) {
                fault = what;
                place = where;
            }
        }

        /** Reads a line whose first token is read; false: with the token read last no text goes on. */
        private boolean readLine(int sort) {
            int verb = verbOf(sort);
            if (verb == NONE) {
                return false;
            }
            if (isOneTooMany(verb)) {
                note(3, start);
            }
            for (int i = 0; i < NUMBERS[verb]; i++) {
                step();
                if (token != NUMBER) {
                    return false;
                }
                checkNumber(verb, i);
                numbers[i] = number;
            }
            if ((verb == GAIN || verb == LOSS) && !readMode()) {
                return false;
            }
            step();
            if (token != SEMICOLON) {
                return false;
            }
            if (fault == 0) {
                tell(verb);
            }
            return true;
        }

        private boolean readMode() {
            step();
            if (isWord("twice")) {
                mode = TWICE;
            } else if (isWord("once")) {
                mode = ONCE;
            } else if (isWord("undone")) {
                mode = UNDONE;
            } else {
                return false;
            }
            return true;
        }

        private boolean isOneTooMany(int verb) {
            if (verb == PERSON) {
                return republic.people >= PEOPLE_MOST;
            }
            Lines draft = draftOf(VERB_SORT[verb]);
            return draft != null && draft.isFull();
        }

        private void checkNumber(int verb, int i) {
            boolean can = number >= LOWEST[verb * 3 + i] && number <= HIGHEST[verb * 3 + i];
            // An errand's hour to is not ahead of its hour from.
            if (!can || (verb == ERRAND && i == 2 && number < numbers[1])) {
                note(2, start);
            }
        }

        /** Tells a line without a fault to the draft. */
        private void tell(int verb) {
            switch (verb) {
                case HOURS:
                    republic.hours = numbers[0];
                    break;
                case GAIN:
                case LOSS:
                    republic.worths[numbers[0]] = verb == GAIN ? numbers[1] : -numbers[1];
                    republic.modes[numbers[0]] = mode;
                    break;
                case PERSON:
                    if (republic.people < PEOPLE_MOST) {
                        republic.purses[republic.people] = numbers[0];
                        republic.people++;
                    }
                    break;
                case DOES:
                case LOT:
                    int[] to = verb == DOES ? republic.deeds : republic.lots;
                    to[numbers[0] * HOURS_MOST + numbers[1]] = numbers[2];
                    lastPersonTold = Math.max(lastPersonTold, numbers[0]);
                    lastHourTold = Math.max(lastHourTold, numbers[1]);
                    break;
                default:
                    tellLine(verb);
                    break;
            }
        }

        private void tellLine(int verb) {
            if (verb == OWES) {
                numbers[2] = -numbers[2];
            }
            Lines draft = draftOf(VERB_SORT[verb]);
            if (draft != null) {
                draft.add(numbers);
            }
        }

        /** The verb of that sort which the token is, or NONE. */
        private int verbOf(int sort) {
            for (int verb = 0; verb < VERBS; verb++) {
                if (VERB_SORT[verb] == sort && isWord(wordOf(verb))) {
                    return verb;
                }
            }
            return NONE;
        }

        private static String wordOf(int verb) {
            switch (verb) {
                case HOURS:
                    return "hours";
                case GAIN:
                    return "gain";
                case LOSS:
                    return "loss";
                case PERSON:
                    return "person";
                case DOES:
                    return "does";
                case LOT:
                    return "lot";
                case 6:
                    return "stuck";
                case ERRAND:
                    return "errand";
                case 8:
                    return "train";
                case 9:
                    return "has";
                default:
                    return "owes";
            }
        }

        private boolean isWord(String word) {
            if (token != WORD || at - start != word.length()) {
                return false;
            }
            for (int i = 0; i < word.length(); i++) {
                if (tape[start + i] != word.charAt(i)) {
                    return false;
                }
            }
            return true;
        }

        /** Reads the next token, as long as it goes. */
        private void step() {
            while (at < length && (tape[at] == 10 || tape[at] == 32)) {
                at++;
            }
            start = at;
            if (at >= length) {
                token = END;
            } else if (isLetter(tape[at])) {
                token = WORD;
                while (at < length && isLetter(tape[at])) {
                    at++;
                }
            } else if (isDigit(tape[at])) {
                stepNumber();
            } else {
                token = tape[at] == ';' ? SEMICOLON : NO_TOKEN;
                at++;
            }
        }

        private void stepNumber() {
            number = 0;
            while (at < length && isDigit(tape[at])) {
                number = number * 10 + tape[at] - '0';
                at++;
            }
            token = at - start > 3 ? NO_TOKEN : NUMBER;
        }

        private static boolean isLetter(int sign) {
            return sign >= 'a' && sign <= 'z';
        }

        private static boolean isDigit(int sign) {
            return sign >= '0' && sign <= '9';
        }
    }

    /** The odds of a day: a weight of each hour, and all of them together, above 0. */
    private static final class Odds {
        final int[] weights = new int[HOURS_MOST];
        int hours = 1;
        int total = 1;

        /** The odds by the lot of a ruler, or (NONE) of nobody. */
        void weigh(Republic r, int ruler) {
            hours = r.hours;
            total = 0;
            for (int h = 0; h < hours; h++) {
                weights[h] = r.lotAt(ruler, h);
                total += weights[h];
            }
            if (total == 0) {
                for (int h = 0; h < hours; h++) {
                    weights[h] = 1;
                }
                total = hours;
            }
        }

        /** The odds of one who knows the hour. */
        void know(int hoursThere, int hour) {
            hours = hoursThere;
            total = 1;
            for (int h = 0; h < hours; h++) {
                weights[h] = h == hour ? 1 : 0;
            }
        }

        /** The hour that a number drawn means. */
        int hourOf(int drawn) {
            int left = total == 0 ? 0 : drawn % total;
            int hour = 0;
            while (hour < hours - 1 && left >= weights[hour]) {
                left -= weights[hour];
                hour++;
            }
            return hour;
        }
    }

    /** What a day by each hour brings to each, and what all have while days go by. */
    private static final class Course {
        final int[] have = new int[PEOPLE_MOST];
        private final int[] values = new int[PEOPLE_MOST * HOURS_MOST];
        private int people = 0;
        private int hours = 0;

        void begin(Republic r) {
            people = r.people;
            hours = r.hours;
            for (int p = 0; p < people; p++) {
                have[p] = r.purses[p];
                int deeds = r.worthOfDeeds(p);
                for (int h = 0; h < hours; h++) {
                    values[p * HOURS_MOST + h] = deeds + r.extraOf(r.deedAt(p, h));
                }
            }
        }

        int poorest() {
            int least = people == 0 ? NONE : 0;
            for (int p = 1; p < people; p++) {
                least = have[p] < have[least] ? p : least;
            }
            return least;
        }

        void live(int hour) {
            for (int p = 0; p < people; p++) {
                have[p] += brings(p, hour);
            }
        }

        void unlive(int hour) {
            for (int p = 0; p < people; p++) {
                have[p] -= brings(p, hour);
            }
        }

        /** The value of one, or (NONE) of all together. */
        int brings(int person, int hour) {
            if (hour < 0 || hour >= hours || person >= people) {
                return 0;
            }
            if (person >= 0) {
                return values[person * HOURS_MOST + hour];
            }
            int all = 0;
            for (int p = 0; p < people; p++) {
                all += values[p * HOURS_MOST + hour];
            }
            return all;
        }

        /** The first hour that brings most to one, or (NONE) to all together. */
        int bestHour(int person) {
            int best = 0;
            int most = brings(person, 0);
            for (int h = 1; h < hours; h++) {
                int value = brings(person, h);
                if (value > most) {
                    most = value;
                    best = h;
                }
            }
            return best;
        }

        /** What a day is to bring to one, times all weights. */
        long weighed(int person, Odds odds) {
            long all = 0;
            for (int h = 0; h < hours; h++) {
                all += (long) odds.weights[h] * brings(person, h);
            }
            return all;
        }

        /** How far two hours lie apart for all, each by himself. */
        int apart(int a, int b) {
            int all = 0;
            for (int p = 0; p < people; p++) {
                all += Math.abs(brings(p, a) - brings(p, b));
            }
            return all;
        }

        int measure(int person, boolean asPoorest) {
            if (asPoorest) {
                return poorest() == person ? 1 : 0;
            }
            return person < 0 || person >= people ? 0 : have[person];
        }
    }

    /** Hours for errands, so that what is to be expected is most. */
    private static final class Planner {
        private static final long CANNOT = -(1L << 60);
        // Below what a choice is worth stand its hours, four bits each, the first errand's highest:
        // they are taken off, so of choices worth the same the first by rows is the greatest.
        private static final int ROW_BITS = 4 * ERRANDS_MOST;

        final int[] blind = new int[ERRANDS_MOST];
        long blindWorth = 0;
        long knowingWorth = 0;
        int regret = NONE;
        // Of the latest choice: what it is worth, times all weights, and its hours.
        long worth = 0;
        private final int[] chosen = new int[ERRANDS_MOST];
        private final long[] best = new long[1 << ERRANDS_MOST];
        private final long[] scores = new long[ERRANDS_MOST];
        private final Odds known = new Odds();

        boolean planBlind(Republic r, Odds odds, Lines errands) {
            if (!choose(r, odds, errands, false)) {
                return false;
            }
            blindWorth = worth;
            System.arraycopy(chosen, 0, blind, 0, ERRANDS_MOST);
            return true;
        }

        /** What knowing is worth, and the regret; behind planBlind of the same. */
        void planKnowing(Republic r, Odds odds, Lines errands) {
            knowingWorth = 0;
            regret = NONE;
            long most = 0;
            for (int h = 0; h < r.hours; h++) {
                known.know(r.hours, h);
                if (odds.weights[h] == 0 || !choose(r, known, errands, false)) {
                    continue;
                }
                knowingWorth += odds.weights[h] * worth;
                long more = worth - blindBy(r, errands, h);
                if (more > most) {
                    most = more;
                    regret = h;
                }
            }
        }

        /** What the blind choice is worth if that hour is stuck. */
        private long blindBy(Republic r, Lines errands, int stuck) {
            long all = 0;
            for (int i = 0; i < errands.size && i < ERRANDS_MOST; i++) {
                int kind = errands.cell(i, 0);
                all += r.worthOf(kind) + (blind[i] == stuck ? r.extraOf(kind) : 0);
            }
            return all;
        }

        /** Chooses; false if they can't be done. Hour by hour, best of each set of errands done so far. */
        boolean choose(Republic r, Odds odds, Lines errands, boolean anyHour) {
            int errandsThere = Math.min(errands.size, ERRANDS_MOST);
            int all = (1 << errandsThere) - 1;
            for (int set = 1; set <= all; set++) {
                best[set] = CANNOT;
            }
            best[0] = 0;
            for (int h = 0; h < r.hours; h++) {
                for (int i = 0; i < errandsThere; i++) {
                    boolean may = anyHour || (h >= errands.cell(i, 1) && h <= errands.cell(i, 2));
                    scores[i] = may ? scoreOf(r, odds, errands.cell(i, 0), i, h) : CANNOT;
                }
                // From the greatest set down, so that none gets two errands in one hour.
                for (int set = all; set > 0; set--) {
                    best[set] = bestOf(set, errandsThere);
                }
            }
            if (best[all] == CANNOT) {
                return false;
            }
            keep(best[all]);
            return true;
        }

        private static long scoreOf(Republic r, Odds odds, int kind, int i, int hour) {
            long expected = (long) r.worthOf(kind) * odds.total + (long) r.extraOf(kind) * odds.weights[hour];
            return (expected << ROW_BITS) - ((long) hour << rowShift(i));
        }

        private static int rowShift(int i) {
            return 4 * (ERRANDS_MOST - 1 - i);
        }

        /** The best of a set, without the hour at hand or with one of its errands in it. */
        private long bestOf(int set, int errandsThere) {
            long most = best[set];
            for (int i = 0; i < errandsThere; i++) {
                int bit = 1 << i;
                if ((set & bit) != 0 && scores[i] != CANNOT && best[set ^ bit] != CANNOT) {
                    most = Math.max(most, best[set ^ bit] + scores[i]);
                }
            }
            return most;
        }

        private void keep(long score) {
            worth = (score + (1L << ROW_BITS) - 1) >> ROW_BITS;
            long row = (worth << ROW_BITS) - score;
            for (int i = 0; i < ERRANDS_MOST; i++) {
                chosen[i] = (int) (row >> rowShift(i)) & 15;
            }
        }
    }

    /** All rows of stuck hours by which purses are as seen. */
    private static final class Search {
        final int[] maybe = new int[SEEN_DAYS_MOST];
        int days = 0;
        int rows = 0;
        private final int[] row = new int[SEEN_DAYS_MOST];
        private final Odds[] odds = new Odds[SEEN_DAYS_MOST];

        Search() {
            for (int d = 0; d < SEEN_DAYS_MOST; d++) {
                odds[d] = new Odds();
            }
        }

        /** Begins where the course is; the course is there again behind it. */
        void run(Republic r, Course course, Lines sights) {
            days = 0;
            rows = 0;
            for (int k = 0; k < sights.size; k++) {
                days = Math.max(days, Math.min(sights.cell(k, 0), SEEN_DAYS_MOST));
            }
            for (int d = 0; d < SEEN_DAYS_MOST; d++) {
                maybe[d] = 0;
            }
            follow(r, course, sights, 0);
        }

        private void follow(Republic r, Course course, Lines sights, int gone) {
            if (gone >= days || gone >= SEEN_DAYS_MOST) {
                keepRow();
                return;
            }
            Odds then = odds[gone];
            if (then == null) {
                return;
            }
            then.weigh(r, course.poorest());
            for (int h = 0; h < r.hours; h++) {
                if (then.weights[h] == 0) {
                    continue;
                }
                course.live(h);
                row[gone] = h;
                if (isAsSeen(r, course, sights, gone + 1)) {
                    follow(r, course, sights, gone + 1);
                }
                course.unlive(h);
            }
        }

        private static boolean isAsSeen(Republic r, Course course, Lines sights, int gone) {
            for (int k = 0; k < sights.size; k++) {
                int who = sights.cell(k, 1);
                if (sights.cell(k, 0) == gone && (!r.hasPerson(who) || course.have[who] != sights.cell(k, 2))) {
                    return false;
                }
            }
            return true;
        }

        private void keepRow() {
            rows++;
            for (int d = 0; d < days; d++) {
                maybe[d] |= 1 << row[d];
            }
        }

        /** The hour of a day that is one in all rows, or NONE. */
        int sureHour(int day) {
            if (day < 0 || day >= SEEN_DAYS_MOST) {
                return NONE;
            }
            for (int h = 0; h < HOURS_MOST; h++) {
                if (maybe[day] == 1 << h) {
                    return h;
                }
            }
            return NONE;
        }
    }

    /** A fraction in least terms; what is below is above 0. */
    private static final class Fraction {
        private long above = 0;
        private long below = 1;

        void put(long a, long b) {
            above = side(a, b, false);
            below = side(a, b, true);
        }

        void add(long a, long b) {
            long common = divisor(below, b);
            long mine = b / common;
            put(above * mine + a * (below / common), below * mine);
        }

        long sideOf(boolean under) {
            return under ? below : above;
        }

        /** What is above or (under) below of a / b, in least terms. */
        static long side(long a, long b, boolean under) {
            long common = divisor(a, b);
            return (under ? b : a) / common;
        }

        /** The greatest common divisor, at least 1. */
        private static long divisor(long a, long b) {
            long x = Math.abs(a);
            long y = Math.abs(b);
            // No two longs need a hundred steps.
            for (int i = 0; i < 100 && y != 0; i++) {
                long rest = x % y;
                x = y;
                y = rest;
            }
            return Math.max(x, 1);
        }
    }
}
