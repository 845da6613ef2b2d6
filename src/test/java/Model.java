import java.math.BigInteger;
import java.util.ArrayList;
import java.util.List;
import java.util.function.Function;

/**
 * The document once more, slow and plain, with the Java library: what ModelTest compares the class with.
 * Nothing here is shared with the class; all sums are fractions, all choices are tried.
 */
final class Model {
    static final int NO = -1000000;

    /** A fraction in least terms. */
    record Frac(BigInteger n, BigInteger d) {
        static Frac of(long n, long d) {
            return of(BigInteger.valueOf(n), BigInteger.valueOf(d));
        }

        static Frac of(BigInteger n, BigInteger d) {
            BigInteger g = n.gcd(d);
            return new Frac(n.divide(g), d.divide(g));
        }

        Frac plus(Frac o) {
            return of(n.multiply(o.d).add(o.n.multiply(d)), d.multiply(o.d));
        }

        Frac minus(Frac o) {
            return plus(new Frac(o.n.negate(), o.d));
        }

        Frac times(Frac o) {
            return of(n.multiply(o.n), d.multiply(o.d));
        }

        Frac times(long k) {
            return times(of(k, 1));
        }

        int compare(Frac o) {
            return n.multiply(o.d).compareTo(o.n.multiply(d));
        }

        long side(boolean under) {
            return (under ? d : n).longValueExact();
        }
    }

    static final Frac ZERO = Frac.of(0, 1);

    static final class Rep {
        int hours = 8;
        int[] worth = new int[6];
        int[] mode = new int[6];
        List<Integer> purse = new ArrayList<>();
        Integer[][] deed = new Integer[6][12];
        Integer[][] lot = new Integer[6][12];

        Rep with(int kind, int m) {
            Rep r = new Rep();
            r.hours = hours;
            r.worth = worth;
            r.mode = mode.clone();
            r.mode[kind] = m;
            r.purse = purse;
            r.deed = deed;
            r.lot = lot;
            return r;
        }
    }

    byte[] tape = new byte[0];
    int fault = 0;
    int place = -1;
    List<Rep> reps = new ArrayList<>();
    List<List<List<int[]>>> rows = new ArrayList<>();
    Model[] images = new Model[3];

    Model() {
        for (int i = 0; i < 5; i++) {
            rows.add(new ArrayList<>());
        }
    }

    // ---- texts

    int feed(int... fives) {
        if (tape.length + 20 > 600) {
            return -1;
        }
        java.nio.ByteBuffer b = java.nio.ByteBuffer.allocate(tape.length + 20);
        b.put(tape);
        for (int f : fives) {
            b.putInt(f);
        }
        tape = b.array();
        return tape.length;
    }

    int end(int n) {
        if (n < 0 || n > tape.length) {
            return -1;
        }
        tape = java.util.Arrays.copyOf(tape, n);
        return n;
    }

    int text(int sort, int at) {
        byte[] bytes = tape;
        tape = new byte[0];
        fault = 0;
        place = -1;
        if (sort < 0 || sort > 4) {
            return -2;
        }
        int size = count(sort);
        if (at == -1 ? size == 2 : at < 0 || at >= size) {
            return -2;
        }
        Rep rep = new Rep();
        List<int[]> list = new ArrayList<>();
        read(bytes, sort, rep, list);
        if (fault != 0) {
            return -1;
        }
        int k = at == -1 ? size : at;
        if (sort == 0) {
            put(reps, k, rep);
        } else {
            put(rows.get(sort), k, list);
        }
        return k;
    }

    private static <T> void put(List<T> list, int k, T t) {
        if (k == list.size()) {
            list.add(t);
        } else {
            list.set(k, t);
        }
    }

    private static final String[] FORMS = {
        "hours h;|gain k w m;|loss k w m;|person u;|does p o k;|lot p o g;", "stuck o;", "errand k o t;", "train o r;",
        "has d p u;|owes d p u;"};

    private record Token(String text, int place) {
    }

    private void read(byte[] bytes, int sort, Rep rep, List<int[]> list) {
        String s = new String(bytes, java.nio.charset.StandardCharsets.ISO_8859_1);
        List<Token> tokens = new ArrayList<>();
        java.util.regex.Matcher m = java.util.regex.Pattern.compile("[a-z]+|[0-9]+|;|[^ \n]", java.util.regex.Pattern.DOTALL).matcher(s);
        while (m.find()) {
            tokens.add(new Token(m.group(), m.start()));
        }
        List<List<Token>> lines = new ArrayList<>();
        int at = 0;
        while (at < tokens.size()) {
            String form = null;
            for (String f : FORMS[sort].split("\\|")) {
                if (f.substring(0, f.indexOf(' ')).equals(tokens.get(at).text)) {
                    form = f;
                }
            }
            if (form == null) {
                syntax(tokens.get(at).place);
                return;
            }
            String[] parts = form.replace(";", " ;").split(" ");
            List<Token> line = new ArrayList<>();
            for (int i = 0; i < parts.length; i++, at++) {
                if (at == tokens.size()) {
                    syntax(bytes.length);
                    return;
                }
                Token t = tokens.get(at);
                boolean ok = i == 0 || switch (parts[i]) {
                    case ";" -> t.text.equals(";");
                    case "m" -> t.text.matches("twice|once|undone");
                    default -> t.text.matches("[0-9]{1,3}");
                };
                if (!ok) {
                    syntax(t.place);
                    return;
                }
                line.add(new Token((i > 0 && i < parts.length - 1 ? parts[i] : "") + t.text, t.place));
            }
            lines.add(line);
        }
        tellLines(bytes.length, sort, lines, rep, list);
    }

    private void syntax(int where) {
        fault = 1;
        place = where;
    }

    private void tellLines(int end, int sort, List<List<Token>> lines, Rep rep, List<int[]> list) {
        int topHour = -1;
        int topPerson = -1;
        int most = new int[] {6, 14, 6, 8, 6}[sort];
        int ones = 0;
        for (List<Token> line : lines) {
            String verb = line.get(0).text;
            if ((sort != 0 || verb.equals("person")) && ++ones > most) {
                fault = 3;
                place = line.get(0).place;
                return;
            }
            int[] v = new int[line.size() - 2];
            for (int i = 1; i <= v.length; i++) {
                String t = line.get(i).text;
                if (t.charAt(0) == 'm') {
                    v[i - 1] = List.of("mtwice", "monce", "mundone").indexOf(t);
                    continue;
                }
                int x = Integer.parseInt(t.substring(1));
                boolean ok = switch (t.charAt(0)) {
                    case 'h' -> x >= 2 && x <= 12;
                    case 'k', 'p' -> x <= 5;
                    case 'w' -> x <= 99;
                    case 'o' -> x <= 11;
                    case 't' -> x <= 11 && x >= v[i - 2];
                    case 'g' -> x <= 9;
                    case 'r' -> x >= 1 && x <= 9;
                    case 'd' -> x >= 1 && x <= 3;
                    default -> true;
                };
                if (!ok) {
                    fault = 2;
                    place = line.get(i).place;
                    return;
                }
                v[i - 1] = x;
            }
            if (sort != 0) {
                if (verb.equals("owes")) {
                    v[2] = -v[2];
                }
                list.add(v);
                continue;
            }
            switch (verb) {
                case "hours" -> rep.hours = v[0];
                case "person" -> rep.purse.add(v[0]);
                case "gain", "loss" -> {
                    rep.worth[v[0]] = verb.equals("gain") ? v[1] : -v[1];
                    rep.mode[v[0]] = v[2];
                }
                default -> {
                    (verb.equals("does") ? rep.deed : rep.lot)[v[0]][v[1]] = v[2];
                    topPerson = Math.max(topPerson, v[0]);
                    topHour = Math.max(topHour, v[1]);
                }
            }
        }
        if (topHour >= rep.hours || topPerson >= rep.purse.size()) {
            fault = 4;
            place = end;
        }
    }

    int fault(int what) {
        return what == 0 ? fault : what == 1 ? place : -1;
    }

    int count(int sort) {
        return sort < 0 || sort > 4 ? -2 : sort == 0 ? reps.size() : rows.get(sort).size();
    }

    boolean image(int k) {
        if (k < 0 || k > 2) {
            return false;
        }
        images[k] = new Model();
        move(this, images[k]);
        return true;
    }

    boolean again(int k) {
        if (k < 0 || k > 2 || images[k] == null) {
            return false;
        }
        move(images[k], this);
        return true;
    }

    private static void move(Model from, Model to) {
        to.tape = from.tape.clone();
        to.fault = from.fault;
        to.place = from.place;
        to.reps = new ArrayList<>(from.reps);
        to.rows = new ArrayList<>();
        for (List<List<int[]>> r : from.rows) {
            to.rows.add(new ArrayList<>(r));
        }
    }

    // ---- terms

    private Rep rep(int k) {
        return k < 0 || k >= reps.size() ? null : reps.get(k);
    }

    private List<int[]> row(int sort, int k) {
        List<List<int[]>> all = rows.get(sort);
        return k < 0 || k >= all.size() ? null : all.get(k);
    }

    private static boolean in(int x, int size) {
        return x >= 0 && x < size;
    }

    /** How often a deed of a mode counts in an hour lived so many times. */
    private static int times(int mode, int lived) {
        return lived == 1 ? 1 : mode == 0 ? lived : mode == 1 ? 1 : 0;
    }

    private static int valueOf(Rep r, int p, int... stuck) {
        int all = 0;
        for (int h = 0; h < r.hours; h++) {
            Integer k = r.deed[p][h];
            int lived = 1;
            for (int s : stuck) {
                lived += s == h ? 1 : 0;
            }
            all += k == null ? 0 : r.worth[k] * times(r.mode[k], lived);
        }
        return all;
    }

    private static List<Integer> next(Rep r, List<Integer> purses, int hour) {
        List<Integer> then = new ArrayList<>();
        for (int p = 0; p < purses.size(); p++) {
            then.add(purses.get(p) + valueOf(r, p, hour));
        }
        return then;
    }

    private static int poorest(List<Integer> purses) {
        return purses.isEmpty() ? -1 : purses.indexOf(java.util.Collections.min(purses));
    }

    private static int[] weights(Rep r, List<Integer> purses) {
        int p = poorest(purses);
        int[] w = new int[r.hours];
        int all = 0;
        for (int h = 0; h < r.hours; h++) {
            w[h] = p < 0 ? 0 : r.lot[p][h] == null ? 1 : r.lot[p][h];
            all += w[h];
        }
        if (all == 0) {
            java.util.Arrays.fill(w, 1);
        }
        return w;
    }

    private static Frac odd(Rep r, List<Integer> purses, int h) {
        int[] w = weights(r, purses);
        return Frac.of(w[h], java.util.Arrays.stream(w).sum());
    }

    private static Frac expect(Rep r, List<Integer> purses, Function<Integer, Frac> of) {
        Frac all = ZERO;
        for (int h = 0; h < r.hours; h++) {
            all = all.plus(odd(r, purses, h).times(of.apply(h)));
        }
        return all;
    }

    private static Frac meanOf(Rep r, int p) {
        return expect(r, r.purse, h -> Frac.of(valueOf(r, p, h), 1));
    }

    private static int best(int size, Function<Integer, Frac> of) {
        int best = 0;
        for (int i = 1; i < size; i++) {
            best = of.apply(i).compare(of.apply(best)) > 0 ? i : best;
        }
        return best;
    }

    private static int sumValue(Rep r, int h) {
        int all = 0;
        for (int p = 0; p < r.purse.size(); p++) {
            all += valueOf(r, p, h);
        }
        return all;
    }

    // ---- republics

    int republic(int k, int what) {
        Rep r = rep(k);
        if (r == null) {
            return -1000;
        }
        return what == 0 ? r.hours : what == 1 ? r.purse.size() : what == 2 ? poorest(r.purse)
            : in(what - 10, 6) ? r.worth[what - 10] : in(what - 20, 6) ? r.mode[what - 20] : -1000;
    }

    int person(int k, int p, int what) {
        Rep r = rep(k);
        if (r == null || !in(p, r.purse.size())) {
            return -2;
        }
        if (what == 0) {
            return r.purse.get(p);
        }
        if (in(what - 10, r.hours)) {
            return r.deed[p][what - 10] == null ? -1 : r.deed[p][what - 10];
        }
        if (in(what - 30, r.hours)) {
            return r.lot[p][what - 30] == null ? 1 : r.lot[p][what - 30];
        }
        return -2;
    }

    int value(int k, int p, int h) {
        Rep r = rep(k);
        if (r == null || !in(h, r.hours) || p != -1 && !in(p, r.purse.size())) {
            return NO;
        }
        return p == -1 ? sumValue(r, h) : valueOf(r, p, h);
    }

    int odds(int k, int h, boolean under) {
        Rep r = rep(k);
        return r == null || !in(h, r.hours) ? -1 : (int) odd(r, r.purse, h).side(under);
    }

    int day(int week, int k) {
        List<int[]> w = row(1, week);
        return w == null ? -2 : k == -1 ? w.size() : in(k, w.size()) ? w.get(k)[0] : -2;
    }

    int purse(int k, int week, int n, int p) {
        Rep r = rep(k);
        List<int[]> w = row(1, week);
        if (r == null || w == null || n < 0 || n > w.size() || p != -1 && !in(p, r.purse.size())) {
            return NO;
        }
        List<Integer> have = r.purse;
        for (int[] day : w.subList(0, n)) {
            if (day[0] >= r.hours) {
                return NO;
            }
            have = next(r, have, day[0]);
        }
        return p == -1 ? poorest(have) : have.get(p);
    }

    long likely(int k, int week, int n, boolean under) {
        Rep r = rep(k);
        List<int[]> w = row(1, week);
        if (r == null || w == null || n < 0 || n > 6 || n > w.size()) {
            return -1;
        }
        List<Integer> have = r.purse;
        Frac all = Frac.of(1, 1);
        for (int[] day : w.subList(0, n)) {
            if (day[0] >= r.hours) {
                return -1;
            }
            all = all.times(odd(r, have, day[0]));
            have = next(r, have, day[0]);
        }
        return all.side(under);
    }

    int drawn(int k, int seed, int n, int what) {
        Rep r = rep(k);
        if (r == null || n < 0 || n > 60) {
            return NO;
        }
        List<Integer> have = r.purse;
        List<Integer> hours = new ArrayList<>();
        long x = seed & 0xffffffffL;
        for (int d = 0; d < n; d++) {
            List<Integer> urn = new ArrayList<>();
            int[] w = weights(r, have);
            for (int h = 0; h < r.hours; h++) {
                urn.addAll(java.util.Collections.nCopies(w[h], h));
            }
            x = (x * 1103515245L + 12345L) & 0xffffffffL;
            hours.add(urn.get((int) ((x >> 16) % urn.size())));
            have = next(r, have, hours.get(d));
        }
        return in(what, have.size()) ? have.get(what) : what == 10 ? poorest(have)
            : what == 11 ? (n == 0 ? -1 : hours.get(n - 1))
            : in(what - 20, r.hours) ? java.util.Collections.frequency(hours, what - 20) : NO;
    }

    int mean(int k, int p, boolean under) {
        Rep r = rep(k);
        return r == null || !in(p, r.purse.size()) ? NO : (int) meanOf(r, p).side(under);
    }

    private static Frac gainOf(Rep r, int p, int h) {
        return Frac.of(valueOf(r, p, h), 1).minus(meanOf(r, p));
    }

    int gain(int k, int p, int h, boolean under) {
        Rep r = rep(k);
        return r == null || !in(p, r.purse.size()) || !in(h, r.hours) ? NO : (int) gainOf(r, p, h).side(under);
    }

    private static int wishOf(Rep r, int p) {
        return best(r.hours, h -> Frac.of(p == -1 ? sumValue(r, h) : valueOf(r, p, h), 1));
    }

    int wish(int k, int p) {
        Rep r = rep(k);
        return r == null || p != -1 && !in(p, r.purse.size()) ? -1 : wishOf(r, p);
    }

    int buyer(int k, int what) {
        Rep r = rep(k);
        if (r == null || r.purse.isEmpty() || !in(what, 3)) {
            return NO;
        }
        int buyer = best(r.purse.size(), p -> gainOf(r, p, wishOf(r, p)));
        Frac price = null;
        for (int p = 0; p < r.purse.size(); p++) {
            Frac g = gainOf(r, p, wishOf(r, p));
            if (p != buyer && (price == null || g.compare(price) > 0)) {
                price = g;
            }
        }
        return what == 0 ? buyer : (int) (price == null ? ZERO : price).side(what == 2);
    }

    int promise(int k, int p, int kind, boolean under) {
        Rep r = rep(k);
        if (r == null || !in(p, r.purse.size()) || !in(kind, 6)) {
            return NO;
        }
        return (int) expect(r, r.purse,
            h -> r.deed[p][h] != null ? ZERO : Frac.of(r.worth[kind] * times(r.mode[kind], 2), 1)).side(under);
    }

    int two(int k, int p, int a, int b) {
        Rep r = rep(k);
        return r == null || !in(p, r.purse.size()) || !in(a, r.hours) || !in(b, r.hours) ? NO : valueOf(r, p, a, b);
    }

    int shift(int k, int p, int what) {
        Rep r = rep(k);
        if (r == null || !in(p, r.purse.size()) || !in(what, 4)) {
            return NO;
        }
        Frac most = meanOf(r, p);
        int from = -1;
        int to = -1;
        for (int a = 0; a < r.hours; a++) {
            for (int b = 0; b < r.hours; b++) {
                if (r.deed[p][a] != null && r.deed[p][b] == null) {
                    Integer kind = r.deed[p][a];
                    r.deed[p][a] = null;
                    r.deed[p][b] = kind;
                    Frac then = meanOf(r, p);
                    r.deed[p][a] = kind;
                    r.deed[p][b] = null;
                    if (then.compare(most) > 0) {
                        most = then;
                        from = a;
                        to = b;
                    }
                }
            }
        }
        return what == 0 ? from : what == 1 ? to : (int) most.side(what == 3);
    }

    int feud(int k, int what) {
        Rep r = rep(k);
        if (r == null || !in(what, 3)) {
            return -1;
        }
        int[] top = {0, 0, -1};
        for (int a = 0; a < r.hours; a++) {
            for (int b = a + 1; b < r.hours; b++) {
                int all = 0;
                for (int p = 0; p < r.purse.size(); p++) {
                    all += Math.abs(valueOf(r, p, a) - valueOf(r, p, b));
                }
                top = all > top[2] ? new int[] {a, b, all} : top;
            }
        }
        return top[what];
    }

    int ruling(int k, int what) {
        Rep r = rep(k);
        if (r == null || !in(what, 4)) {
            return NO;
        }
        Function<Integer, Frac> all = i -> {
            Rep then = r.with(i / 3, i % 3);
            Frac sum = ZERO;
            for (int p = 0; p < r.purse.size(); p++) {
                sum = sum.plus(meanOf(then, p));
            }
            return sum;
        };
        int best = best(18, all);
        return what == 0 ? best / 3 : what == 1 ? best % 3 : (int) all.apply(best).side(what == 3);
    }

    // ---- rows of numbers

    private int cell(int sort, int number, int k, int what, int no) {
        List<int[]> list = row(sort, number);
        return list == null ? no : k == -1 && what == 0 ? list.size()
            : in(k, list.size()) && in(what, list.get(k).length) ? list.get(k)[what] : no;
    }

    int errand(int e, int k, int what) {
        return cell(2, e, k, what, -2);
    }

    int train(int t, int k, int what) {
        return cell(3, t, k, what, -2);
    }

    int sight(int s, int k, int what) {
        return cell(4, s, k, what, NO);
    }

    // ---- errands

    private static void choices(Rep r, List<int[]> errands, boolean any, int[] hours, int i, List<int[]> into) {
        if (i == errands.size()) {
            into.add(hours.clone());
            return;
        }
        for (int h = any ? 0 : errands.get(i)[1]; h < r.hours && (any || h <= errands.get(i)[2]); h++) {
            boolean taken = false;
            for (int j = 0; j < i; j++) {
                taken |= hours[j] == h;
            }
            if (!taken) {
                hours[i] = h;
                choices(r, errands, any, hours, i + 1, into);
            }
        }
    }

    private static List<int[]> choices(Rep r, List<int[]> errands, boolean any) {
        List<int[]> all = new ArrayList<>();
        choices(r, errands, any, new int[errands.size()], 0, all);
        return all;
    }

    private static long doneBy(Rep r, List<int[]> errands, int[] hours, int stuck) {
        long all = 0;
        for (int i = 0; i < hours.length; i++) {
            int kind = errands.get(i)[0];
            all += r.worth[kind] * times(r.mode[kind], hours[i] == stuck ? 2 : 1);
        }
        return all;
    }

    /** What choices are worth, times all weights: whole numbers, for there are many choices. */
    private static long[] worths(Rep r, List<int[]> errands, List<int[]> choices) {
        int[] w = weights(r, r.purse);
        long[] all = new long[choices.size()];
        for (int i = 0; i < all.length; i++) {
            for (int h = 0; h < r.hours; h++) {
                all[i] += w[h] * doneBy(r, errands, choices.get(i), h);
            }
        }
        return all;
    }

    private static int first(long[] of) {
        int best = 0;
        for (int i = 1; i < of.length; i++) {
            best = of[i] > of[best] ? i : best;
        }
        return best;
    }

    int plan(int k, int e, int what) {
        Rep r = rep(k);
        List<int[]> errands = row(2, e);
        if (r == null || errands == null || !in(what, 7) && !in(what - 10, errands.size())) {
            return NO;
        }
        List<int[]> choices = choices(r, errands, false);
        if (choices.isEmpty()) {
            return NO;
        }
        long[] worths = worths(r, errands, choices);
        int[] blind = choices.get(first(worths));
        if (what >= 10) {
            return blind[what - 10];
        }
        int[] w = weights(r, r.purse);
        int total = java.util.Arrays.stream(w).sum();
        Frac blindWorth = Frac.of(worths[first(worths)], total);
        Frac knowing = ZERO;
        int regret = -1;
        long most = 0;
        for (int h = 0; h < r.hours; h++) {
            int stuck = h;
            long top = choices.stream().mapToLong(c -> doneBy(r, errands, c, stuck)).max().getAsLong();
            knowing = knowing.plus(Frac.of(w[h] * top, total));
            if (w[h] > 0 && top - doneBy(r, errands, blind, h) > most) {
                most = top - doneBy(r, errands, blind, h);
                regret = h;
            }
        }
        return what == 6 ? regret
            : (int) (what < 2 ? blindWorth : what < 4 ? knowing : knowing.minus(blindWorth)).side(what % 2 == 1);
    }

    int free(int k, int e, boolean under) {
        Rep r = rep(k);
        List<int[]> errands = row(2, e);
        if (r == null || errands == null) {
            return NO;
        }
        List<int[]> bound = choices(r, errands, false);
        if (bound.isEmpty()) {
            return NO;
        }
        long[] a = worths(r, errands, bound);
        long[] b = worths(r, errands, choices(r, errands, true));
        return (int) Frac.of(b[first(b)] - a[first(a)], java.util.Arrays.stream(weights(r, r.purse)).sum()).side(under);
    }

    // ---- trains

    /** The clock of each true hour lived, the stuck one twice. */
    private static List<Integer> lived(int stuck) {
        List<Integer> all = new ArrayList<>();
        for (int h = 0; h < 200; h++) {
            all.add(h);
            if (h == stuck) {
                all.add(h);
            }
        }
        return all;
    }

    private static int lead(int hour, int ride, int next, int stuck) {
        return lived(stuck).indexOf(next) - (lived(stuck).indexOf(hour) + ride);
    }

    private static int lead(List<int[]> t, int k, int stuck) {
        return lead(t.get(k)[0], t.get(k)[1], t.get(k + 1)[0], stuck);
    }

    private static boolean holdsBy(List<int[]> t, int stuck) {
        for (int k = 0; k + 1 < t.size(); k++) {
            if (lead(t, k, stuck) < 0) {
                return false;
            }
        }
        return true;
    }

    int holds(int k, int table, int h) {
        Rep r = rep(k);
        List<int[]> t = row(3, table);
        if (r == null || t == null || h != -1 && !in(h, r.hours)) {
            return -1000;
        }
        if (h != -1) {
            return holdsBy(t, h) ? 1 : 0;
        }
        int least = 1000;
        for (int i = 0; i + 1 < t.size(); i++) {
            for (int s = 0; s < r.hours; s++) {
                least = Math.min(least, lead(t, i, s));
            }
        }
        return least;
    }

    int clock(int k, int table, int i, int h) {
        Rep r = rep(k);
        List<int[]> t = row(3, table);
        if (r == null || t == null || !in(i, t.size())) {
            return -1;
        }
        if (in(h, 12)) {
            return in(h, r.hours) ? lived(h).get(lived(h).indexOf(t.get(i)[0]) + t.get(i)[1]) : -1;
        }
        int hour = t.get(0)[0];
        for (int j = 0; j < i; j++) {
            int next = -1;
            boolean all;
            do {
                next++;
                all = true;
                for (int s = 0; s < r.hours; s++) {
                    all &= lead(hour, t.get(j)[1], next, s) >= 0;
                }
            } while (!all);
            hour = next;
        }
        return hour;
    }

    int trust(int k, int table, boolean under) {
        Rep r = rep(k);
        List<int[]> t = row(3, table);
        return r == null || t == null ? -1 : (int) expect(r, r.purse, h -> Frac.of(holdsBy(t, h) ? 1 : 0, 1)).side(under);
    }

    int tight(int k, int table) {
        Rep r = rep(k);
        List<int[]> t = row(3, table);
        if (r == null || t == null || t.size() < 2) {
            return -1;
        }
        int least = 1000;
        int tight = -1;
        for (int i = 0; i + 1 < t.size(); i++) {
            for (int s = 0; s < r.hours; s++) {
                if (lead(t, i, s) < least) {
                    least = lead(t, i, s);
                    tight = i;
                }
            }
        }
        return tight;
    }

    // ---- sights, reigns, hopes

    int fits(int k, int sights, int what) {
        Rep r = rep(k);
        List<int[]> s = row(4, sights);
        if (r == null || s == null) {
            return -2;
        }
        int days = s.stream().mapToInt(x -> x[0]).max().orElse(0);
        int all = (int) Math.pow(r.hours, days);
        int count = 0;
        int[] maybe = new int[days];
        for (int code = 0; code < all; code++) {
            int[] hours = new int[days];
            int left = code;
            for (int d = 0; d < days; d++) {
                hours[d] = left % r.hours;
                left /= r.hours;
            }
            if (fitsRow(r, s, hours)) {
                count++;
                for (int d = 0; d < days; d++) {
                    maybe[d] |= 1 << hours[d];
                }
            }
        }
        if (what == 0) {
            return count;
        }
        if (in(what - 10, days)) {
            int bits = maybe[what - 10];
            return Integer.bitCount(bits) == 1 ? Integer.numberOfTrailingZeros(bits) : -1;
        }
        return in(what - 20, days) ? maybe[what - 20] : -2;
    }

    private static boolean fitsRow(Rep r, List<int[]> sights, int[] hours) {
        List<Integer> have = r.purse;
        for (int d = 0; d < hours.length; d++) {
            if (weights(r, have)[hours[d]] == 0) {
                return false;
            }
            have = next(r, have, hours[d]);
            for (int[] s : sights) {
                if (s[0] == d + 1 && (s[1] >= have.size() || have.get(s[1]) != s[2])) {
                    return false;
                }
            }
        }
        return true;
    }

    int reign(int k, int n, int what) {
        Rep r = rep(k);
        if (r == null || n < 0 || n > 60) {
            return NO;
        }
        List<Integer> have = r.purse;
        List<Integer> rulers = new ArrayList<>();
        List<Integer> hours = new ArrayList<>();
        rulers.add(poorest(have));
        int fall = -1;
        for (int d = 0; d < n; d++) {
            int ruler = rulers.get(d);
            hours.add(ruler == -1 ? 0 : wishOf(r, ruler));
            have = next(r, have, hours.get(d));
            rulers.add(poorest(have));
            if (fall == -1 && rulers.get(d + 1) != ruler) {
                fall = d;
            }
        }
        return in(what, have.size()) ? have.get(what) : what == 10 ? poorest(have) : what == 11 ? fall
            : in(what - 20, have.size()) ? java.util.Collections.frequency(rulers.subList(0, n), what - 20)
            : in(what - 100, n) ? hours.get(what - 100) : NO;
    }

    private static Frac later(Rep r, List<Integer> have, int n, Function<List<Integer>, Integer> of) {
        return n == 0 ? Frac.of(of.apply(have), 1) : expect(r, have, h -> later(r, next(r, have, h), n - 1, of));
    }

    long hope(int k, int p, int n, boolean under) {
        Rep r = rep(k);
        return r == null || !in(p, r.purse.size()) || !in(n, 3) ? NO : later(r, r.purse, n, have -> have.get(p)).side(under);
    }

    long doom(int k, int p, int n, boolean under) {
        Rep r = rep(k);
        return r == null || !in(p, r.purse.size()) || !in(n, 3) ? -1
            : later(r, r.purse, n, have -> poorest(have) == p ? 1 : 0).side(under);
    }
}
