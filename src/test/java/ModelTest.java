import java.util.Random;

/** Random texts and random calls, of all promises, on the class and on the model: all answers alike. */
public final class ModelTest {
    private static final int RUNS = 1500;
    private static final Check CHECK = new Check("ModelTest");

    private final Random random;
    private final GluedHour x = new GluedHour();
    private final Model model = new Model();
    private boolean shown = false;
    private int hours = 8;
    private int people = 0;
    private int lineSeed = 0;

    private ModelTest(long seed) {
        random = new Random(seed);
    }

    public static void main(String[] args) {
        for (int seed = 0; seed < RUNS; seed++) {
            new ModelTest(seed).run(seed);
        }
        CHECK.end();
    }

    private void run(int seed) {
        for (int sort = 0; sort < 5; sort++) {
            for (int i = 0; i < 9 && model.count(sort) < 2; i++) {
                tell(sort, random.nextInt(8) == 0 ? random.nextInt(4) - 1 : -1);
            }
        }
        for (int i = 0; i < 150; i++) {
            if (random.nextInt(25) == 0) {
                changes();
            }
            call(random.nextInt(31));
        }
        if (shown) {
            System.out.println("(so much of run " + seed + ")");
        }
    }

    private void due(String call, long got, long want) {
        CHECK.due(call, got, want);
        shown |= got != want;
    }

    private void changes() {
        int k = random.nextInt(5) - 1;
        switch (random.nextInt(4)) {
            case 0 -> due("image(" + k + ")", x.image(k) ? 1 : 0, model.image(k) ? 1 : 0);
            case 1 -> due("again(" + k + ")", x.again(k) ? 1 : 0, model.again(k) ? 1 : 0);
            case 2 -> tell(random.nextInt(7) - 1, random.nextInt(4) - 1);
            default -> {
                int n = random.nextInt(40) - 2;
                int f = random.nextInt();
                due("feed", x.feed(f, n, f, n, f), model.feed(f, n, f, n, f));
                due("end(" + n + ")", x.end(n), model.end(n));
            }
        }
    }

    private void tell(int sort, int at) {
        String text = textOf(sort);
        if (random.nextInt(8) == 0 && text.length() > 0) {
            text = spoil(text);
        }
        byte[] b = text.getBytes(java.nio.charset.StandardCharsets.ISO_8859_1);
        x.end(0);
        model.end(0);
        for (int i = 0; i < b.length; i += 20) {
            int[] f = new int[5];
            for (int j = 0; j < 5; j++) {
                f[j] = Check.four(b, i + 4 * j);
            }
            due("feed", x.feed(f[0], f[1], f[2], f[3], f[4]), model.feed(f));
        }
        due("end", x.end(b.length), model.end(b.length));
        due("text(" + sort + ", " + at + ") of " + text, x.text(sort, at), model.text(sort, at));
        for (int what = -1; what < 3; what++) {
            due("fault(" + what + ") of " + text, x.fault(what), model.fault(what));
        }
    }

    private String spoil(String text) {
        StringBuilder b = new StringBuilder(text);
        int at = random.nextInt(text.length());
        String signs = "; \n09agk#\u00e9";
        char sign = signs.charAt(random.nextInt(signs.length()));
        switch (random.nextInt(4)) {
            case 0 -> b.deleteCharAt(at);
            case 1 -> b.insert(at, sign);
            case 2 -> b.setCharAt(at, sign);
            default -> b.setLength(at);
        }
        return b.toString();
    }

    private String textOf(int sort) {
        StringBuilder b = new StringBuilder();
        lineSeed = random.nextInt();
        if (sort == 0) {
            republic(b);
        }
        int lines = sort == 0 ? 0 : random.nextInt(new int[] {1, 16, 6, 10, 4, 3, 3}[Math.max(sort, 0)]);
        for (int i = 0; i < lines; i++) {
            switch (sort) {
                case 1 -> line(b, "stuck", rare(hours, 13));
                case 2 -> {
                    int from = rare(hours, 12);
                    line(b, "errand", rare(6, 7), from, random.nextInt(30) == 0 ? from - 1 : from + random.nextInt(Math.max(1, 12 - from)));
                }
                case 3 -> line(b, "train", Math.min(11, i * (1 + random.nextInt(3)) + random.nextInt(2)), 1 + rare(3, 9));
                default -> sight(b);
            }
        }
        return b.toString();
    }

    /** Mostly a purse that some hours bring. */
    private void sight(StringBuilder b) {
        int days = 1 + random.nextInt(3);
        int who = rare(model.republic(0, 1), 6);
        int seen = model.drawn(0, lineSeed, days, who);
        boolean fits = seen > -1000 && seen < 1000 && random.nextInt(6) != 0;
        int purse = fits ? seen : random.nextInt(20) - 5;
        line(b, purse < 0 || purse == 0 && random.nextBoolean() ? "owes" : "has", rare(1, 40) == 0 ? days : 4, who, Math.abs(purse));
    }

    private int rare(int usual, int seldom) {
        return random.nextInt(random.nextInt(20) == 0 ? seldom : Math.max(1, usual));
    }

    private void republic(StringBuilder b) {
        hours = 8;
        if (random.nextInt(4) != 0) {
            hours = 2 + random.nextInt(random.nextInt(3) == 0 ? 11 : 5);
            line(b, "hours", hours);
        }
        int top = random.nextInt(3) == 0 ? 99 : 4;
        for (int k = 0; k < 6; k++) {
            if (random.nextInt(5) != 0) {
                line(b, random.nextInt(3) == 0 ? "loss" : "gain", k, random.nextInt(top + 1));
                b.setLength(b.length() - 1);
                b.append(new String[] {" twice;", "once;", "undone ;"}[random.nextInt(3)]);
            }
        }
        people = random.nextInt(random.nextInt(6) == 0 ? 8 : 5);
        for (int p = 0; p < people; p++) {
            line(b, "person", random.nextInt(random.nextInt(3) == 0 ? 1000 : 12));
        }
        int left = 590 - b.length();
        for (int i = 0; i < 40 && people > 0 && left > 16; i++) {
            int was = b.length();
            line(b, random.nextInt(5) < 3 ? "does" : "lot", random.nextInt(people), rare(hours, hours + (i == 7 ? 1 : 0)), random.nextInt(6));
            left -= b.length() - was;
            i += random.nextInt(3);
        }
        if (random.nextInt(6) == 0 && people > 0) {
            int who = random.nextInt(people);
            for (int h = 0; h < hours && b.length() < 585; h++) {
                line(b, "lot", who, h, random.nextInt(3) == 0 ? 1 : 0);
            }
        }
    }

    private void line(StringBuilder b, String verb, int... numbers) {
        b.append(verb);
        for (int n : numbers) {
            b.append(random.nextInt(12) == 0 ? " \n" : " ").append(n);
        }
        b.append(';');
    }

    private int any(int size) {
        return random.nextInt(size + 2) - 1;
    }

    /** Mostly one that is there, if there are so many. */
    private int some(int size) {
        return size == 0 || random.nextInt(12) == 0 ? any(size) : random.nextInt(size);
    }

    private void call(int which) {
        int r = some(2);
        int there = Math.max(0, model.republic(r, 0));
        int p = some(Math.max(0, model.republic(r, 1)));
        int h = random.nextInt(9) == 0 ? random.nextInt(16) - 2 : some(there);
        int g = some(there);
        int o = some(2);
        boolean u = random.nextBoolean();
        int w = any(45);
        String args = "(" + r + ", " + o + ", p " + p + ", h " + h + ", g " + g + ", w " + w + ", " + u + ")";
        switch (which) {
            case 0 -> due("republic" + args, x.republic(r, w), model.republic(r, w));
            case 1 -> due("person" + args, x.person(r, p, w), model.person(r, p, w));
            case 2 -> due("value" + args, x.value(r, p, h), model.value(r, p, h));
            case 3 -> due("odds" + args, x.odds(r, h, u), model.odds(r, h, u));
            case 4 -> due("day" + args, x.day(r, w), model.day(r, w));
            default -> call2(which, r, p, h, g, o, u);
        }
    }

    private void call2(int which, int r, int p, int h, int g, int o, boolean u) {
        int n = some(Math.max(0, model.day(o, -1)) + 1);
        int w = some(5);
        int few = some(3);
        int draws = some(61);
        int seed = random.nextInt();
        int mark = new int[] {some(3), 10, 11, 20 + some(6), 100 + some(Math.max(0, draws))}[random.nextInt(5)];
        int deep = new int[] {some(7), 10 + some(3), 20 + some(3)}[random.nextInt(3)];
        String a = "(r " + r + ", o " + o + ", p " + p + ", h " + h + ", g " + g + ", n " + n + ", w " + w + ", few " + few
            + ", draws " + draws + ", seed " + seed + ", mark " + mark + ", deep " + deep + ", " + u + ")";
        switch (which) {
            case 5 -> due("purse" + a, x.purse(r, o, n, p), model.purse(r, o, n, p));
            case 6 -> due("likely" + a, x.likely(r, o, n, u), model.likely(r, o, n, u));
            case 7 -> due("drawn" + a, x.drawn(r, seed, draws, mark), model.drawn(r, seed, draws, mark));
            case 8 -> due("mean" + a, x.mean(r, p, u), model.mean(r, p, u));
            case 9 -> due("gain" + a, x.gain(r, p, h, u), model.gain(r, p, h, u));
            case 10 -> due("wish" + a, x.wish(r, p), model.wish(r, p));
            case 11 -> due("buyer" + a, x.buyer(r, few), model.buyer(r, few));
            case 12 -> due("promise" + a, x.promise(r, p, w, u), model.promise(r, p, w, u));
            case 13 -> due("two" + a, x.two(r, p, h, u ? h : g), model.two(r, p, h, u ? h : g));
            case 14 -> due("shift" + a, x.shift(r, p, few), model.shift(r, p, few));
            case 15 -> due("feud" + a, x.feud(r, few), model.feud(r, few));
            case 16 -> due("errand" + a, x.errand(o, w, few), model.errand(o, w, few));
            case 17, 18 -> due("plan" + a, x.plan(r, o, deep), model.plan(r, o, deep));
            case 19 -> due("train" + a, x.train(o, w, few), model.train(o, w, few));
            case 20 -> due("holds" + a, x.holds(r, o, h), model.holds(r, o, h));
            case 21 -> due("clock" + a, x.clock(r, o, w, h), model.clock(r, o, w, h));
            case 22 -> due("sight" + a, x.sight(o, w, few), model.sight(o, w, few));
            case 23 -> due("fits" + a, x.fits(r, o, deep), model.fits(r, o, deep));
            case 24 -> due("reign" + a, x.reign(r, draws, mark), model.reign(r, draws, mark));
            case 25 -> due("hope" + a, x.hope(r, p, few, u), model.hope(r, p, few, u));
            case 26 -> due("doom" + a, x.doom(r, p, few, u), model.doom(r, p, few, u));
            case 27 -> due("ruling" + a, x.ruling(r, w), model.ruling(r, w));
            case 28 -> due("trust" + a, x.trust(r, o, u), model.trust(r, o, u));
            case 29 -> due("tight" + a, x.tight(r, o), model.tight(r, o));
            default -> {
                due("free" + a, x.free(r, o, u), model.free(r, o, u));
                due("count" + a, x.count(w), model.count(w));
            }
        }
    }
}
