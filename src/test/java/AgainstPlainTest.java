import java.util.NoSuchElementException;
import java.util.Random;

/** Runs of calls drawn by seeds, on the program and on the plain one: all answers must be alike. */
public final class AgainstPlainTest {
    private static final int RUNS = 1500;
    private static final int CALLS = 160;
    private static final long THROWN = Long.MIN_VALUE;

    private final Random random;
    private final StringBuilder log = new StringBuilder();
    private final RockingHorse horse = new RockingHorse();
    private final PlainHorse plain = new PlainHorse();
    private String call = "";

    private AgainstPlainTest(long seed) {
        // Seeds side by side draw alike at first, unless they are spread.
        random = new Random(seed * 0x9E3779B97F4A7C15L + 0x632BE59BD9B4E019L);
    }

    public static void main(String[] args) {
        int runs = args.length > 0 ? Integer.parseInt(args[0]) : RUNS;
        int from = args.length > 1 ? Integer.parseInt(args[1]) : 0;
        for (int seed = from; seed < from + runs; seed++) {
            AgainstPlainTest run = new AgainstPlainTest(seed);
            String wrong = run.runCalls();
            if (wrong != null) {
                System.out.println("seed " + seed + ": " + wrong + "\n" + run.log);
                System.exit(1);
            }
        }
        System.out.println(runs + " drawn runs are alike");
    }

    private int to(int n) {
        return random.nextInt(n);
    }

    private String runCalls() {
        if (to(8) > 0) {
            text(ridersText(to(3) == 0 ? 8 : 1 + to(8)));
            both(2);
        }
        for (int i = 0; i < CALLS; i++) {
            String wrong = both(kind());
            if (wrong == null) {
                wrong = looks();
            }
            if (wrong != null) {
                return wrong;
            }
        }
        return null;
    }

    /** Which call comes next: texts come ahead of the calls that read them. */
    private int kind() {
        int k = to(52);
        if (k == 2 && to(3) > 0) {
            k = 47;
        }
        if (to(6) > 0) {
            switch (k) {
                case 2:
                    text(ridersText(1 + to(4)));
                    break;
                case 3:
                case 45:
                    text(ruleText());
                    break;
                case 8:
                    text(rotaText());
                    break;
                case 12:
                    text(yearText());
                    break;
                default:
                    break;
            }
        }
        return k;
    }

    private void text(String t) {
        both(51);
        for (int p = 0; p < t.length(); p += 4) {
            int v = 0;
            for (int k = 0; k < 4; k++) {
                v = v << 8 | (p + k < t.length() ? t.charAt(p + k) : 0);
            }
            horse.sign(v);
            plain.sign(v);
        }
        int n = Math.min(t.length(), plain.text.length());
        horse.end(n);
        plain.end(n);
        log.append("text ").append(t).append('\n');
    }

    private String spoilt(String t, String signs) {
        if (to(5) > 0 || t.isEmpty()) {
            return t;
        }
        int p = to(t.length() + 1);
        char c = to(8) == 0 ? (char) to(256) : signs.charAt(to(signs.length()));
        switch (to(3)) {
            case 0:
                return t.substring(0, p);
            case 1:
                return t.substring(0, p) + c + t.substring(p);
            default:
                return t.substring(0, p) + c + t.substring(Math.min(t.length(), p + 1));
        }
    }

    private String ridersText(int lines) {
        StringBuilder b = new StringBuilder();
        // Large crews that can all would have more rotas than the plain one can list.
        int dense = to(4) == 0 ? 2 + to(6) : Math.max(1, Math.min(7, 20 / lines + to(2)));
        for (int i = 0; i < lines; i++) {
            b.append(i > 0 ? ";" : "").append(1 + to(4)).append(1 + to(9));
            for (char c = 'a'; c <= 'h'; c++) {
                b.append(to(8) < dense ? "" + c : "");
            }
        }
        return spoilt(b.toString(), "0123456789;abcdefgh");
    }

    private String expression(int depth) {
        String t = "";
        int n = 1 + to(4);
        for (int i = 0; i < n; i++) {
            t += i == 0 ? "" : "" + "+-*/+-*/<>=".charAt(to(i == 1 ? 11 : 8));
            t += to(6) == 0 ? "-" : "";
            int what = to(6);
            if (what == 0 && depth < 5) {
                t += "(" + expression(depth + 1) + ")";
            } else {
                t += what < 3 ? "" + to(to(2) == 0 ? 10 : 1000) : "" + "htwminc".charAt(to(7));
            }
        }
        return t;
    }

    private String ruleText() {
        String t = expression(0);
        if (t.length() > 40 && to(4) > 0) {
            t = "t+i*" + to(99) + "+w";
        }
        return spoilt(t, "htwminc()+-*/<>=0123456789;");
    }

    private String rotaText() {
        StringBuilder b = new StringBuilder();
        for (int h = 0; h < plain.hours; h++) {
            b.append(to(6) == 0 || plain.crew.isEmpty() ? "-" : "" + to(plain.crew.size()));
        }
        return spoilt(b.toString(), "0123456789-x");
    }

    private String yearText() {
        StringBuilder b = new StringBuilder();
        int n = to(to(3) == 0 ? 26 : 7);
        int size = to(3) == 0 ? 10 : Math.max(1, plain.crew.size());
        for (int i = 0; i < n; i++) {
            switch (to(4)) {
                case 0:
                    b.append('n').append(to(10));
                    break;
                case 1:
                    b.append('i').append(to(size));
                    break;
                case 2:
                    b.append('g').append(to(to(6) == 0 ? 10 : 8)).append(to(5) == 0 ? "-" : "" + to(size));
                    break;
                default:
                    b.append('x').append(to(size)).append(to(size));
                    break;
            }
        }
        return spoilt(b.toString(), "nigx0123456789-");
    }

    /** A number that is mostly among 0 .. n - 1, else near it or anything. */
    private int near(int n) {
        int k = to(20);
        return k == 0 ? random.nextInt() : k < 3 ? to(n + 4) - 2 : to(Math.max(1, n));
    }

    private boolean isTooMuch() {
        double rotas = 1;
        for (int h = 0; h < plain.hours; h++) {
            int can = 0;
            for (int r = 0; r < plain.crew.size(); r++) {
                can += !plain.mind.ill[r] && plain.can(r, h) ? 1 : 0;
            }
            rotas *= can;
        }
        return rotas > 40000;
    }

    private String both(int kind) {
        int riders = plain.crew.size();
        int a = near(kind == 4 || kind == 9 || kind == 28 || kind == 36 || kind == 39 ? 8 : riders);
        int b = near(riders);
        int c = near(2);
        int n = near(61);
        boolean lists = kind == 19 || kind >= 22 && kind <= 27 || kind == 34 || kind >= 38 && kind <= 40;
        if (lists && isTooMuch()) {
            return null;
        }
        long one = answer(true, kind, a, b, c, n);
        long other = answer(false, kind, a, b, c, n);
        log.append(call).append(" = ").append(other).append('\n');
        return one == other ? null : call + " answered " + one + ", due is " + other;
    }

    private long answer(boolean program, int kind, int a, int b, int c, int n) {
        try {
            return kind < 26 ? early(program, kind, a, b, c, n) : late(program, kind, a, b, c, n);
        } catch (NoSuchElementException e) {
            return THROWN;
        }
    }

    private long told(String name, long v) {
        call = name;
        return v;
    }

    private long early(boolean x, int kind, int a, int b, int c, int n) {
        RockingHorse h = horse;
        PlainHorse p = plain;
        switch (kind) {
            case 0:
                return told("sign(" + n + ")", x ? h.sign(n) : p.sign(n));
            case 1:
                return told("end(" + a + ")", (x ? h.end(a) : p.end(a)) ? 1 : 0);
            case 2:
                return told("riders()", x ? h.riders() : p.riders());
            case 3:
                return told("rule()", x ? h.rule() : p.rule());
            case 4:
                return told("hard(" + b + ", " + a + ")", x ? h.hard(b, a) : p.hard(b, a));
            case 5:
                return told("set(0, " + a + ")", x ? h.set(0, a) : p.set(0, a));
            case 6:
                return told("set(" + c + ", " + n + ")", x ? h.set(c, n) : p.set(c, n));
            case 7:
                return told("sheet(" + (c + 1) + ", " + a + ", " + n + ", " + b * 9 + ")",
                    x ? h.sheet(c + 1, a, n, b * 9) : p.sheet(c + 1, a, n, b * 9));
            case 8:
                return told("rota()", x ? h.rota() : p.rota());
            case 9:
                return told("give(" + a + ", " + b + ")", x ? h.give(a, b) : p.give(a, b));
            case 10:
                return told("ill(" + a + ")", x ? h.ill(a) : p.ill(a));
            case 11:
                return told("nights(" + n / 2 + ")", x ? h.nights(n / 2) : p.nights(n / 2));
            case 12:
                return told("year()", x ? h.year() : p.year());
            case 13:
                return told("undo()", x ? h.undo() : p.undo());
            case 14:
                return told("gaps()", x ? h.gaps() : p.gaps());
            case 15:
                return told("first(" + n + ")", x ? h.first(n) : p.first(n));
            case 16:
                return told("later(" + n + ")", x ? h.later(n) : p.later(n));
            case 17:
                return told("vigil(" + n + ")", x ? h.vigil(n) : p.vigil(n));
            case 18:
                return told("trade()", x ? h.trade() : p.trade());
            case 19:
                return told("easiest()", x ? h.easiest() : p.easiest());
            case 20:
                return told("fewest()", x ? h.fewest() : p.fewest());
            case 21:
                return told("bare()", x ? h.bare() : p.bare());
            case 22:
                return told("rotas()", x ? h.rotas() : p.rotas());
            case 23:
                return told("mended(" + a + ")", x ? h.mended(a) : p.mended(a));
            case 24:
                return told("takes()", x ? h.takes() : p.takes());
            default:
                return told("missed(" + a + ")", x ? h.missed(a) : p.missed(a));
        }
    }

    private long late(boolean x, int kind, int a, int b, int c, int n) {
        RockingHorse h = horse;
        PlainHorse p = plain;
        int tenths = n / 6;
        switch (kind) {
            case 26:
                return told("paid(" + a + ")", x ? h.paid(a) : p.paid(a));
            case 27:
                return told("fairest()", x ? h.fairest() : p.fairest());
            case 28:
                return told("able(" + a + ")", x ? h.able(a) : p.able(a));
            case 29:
                return told("spent(" + n + ")", x ? h.spent(n) : p.spent(n));
            case 30:
                return told("away()", x ? h.away() : p.away());
            case 31:
                return told("shared(" + a + ", " + b + ")", x ? h.shared(a, b) : p.shared(a, b));
            case 32:
                return told("thin()", x ? h.thin() : p.thin());
            case 33:
                return told("changes()", x ? h.changes() : p.changes());
            case 34:
                return told("smoothest()", x ? h.smoothest() : p.smoothest());
            case 35:
                return told("meets(" + a + ", " + b + ", " + n + ")", x ? h.meets(a, b, n) : p.meets(a, b, n));
            case 36:
                return told("found(" + a + ", " + b + ", " + c + ")", x ? h.found(a, b, c) : p.found(a, b, c));
            case 37:
                return told("forget()", x ? h.forget() : p.forget());
            case 38:
                return told("fits()", x ? h.fits() : p.fits());
            case 39:
                return told("sure(" + a + ", " + b + ")", x ? h.sure(a, b) : p.sure(a, b));
            case 40:
                return told("ask()", x ? h.ask() : p.ask());
            case 41:
                return told("held(" + tenths + ")", x ? h.held(tenths) : p.held(tenths));
            case 42:
                return told("keystone(" + tenths + ")", x ? h.keystone(tenths) : p.keystone(tenths));
            case 43:
                return told("rests(" + tenths + ", " + n % 10 + ")", x ? h.rests(tenths, n % 10) : p.rests(tenths, n % 10));
            case 44:
                return told("years(" + n * 7919 + ", " + n + ")", x ? h.years(n * 7919, n) : p.years(n * 7919, n));
            case 45:
                return told("law()", x ? h.law() : p.law());
            case 46:
                return told("keep(" + c + ")", (x ? h.keep(c) : p.keep(c)) ? 1 : 0);
            case 47:
                return told("again(" + c + ")", (x ? h.again(c) : p.again(c)) ? 1 : 0);
            case 48:
                return told("count(" + n + ")", x ? h.count(n) : p.count(n));
            case 49:
                return told("rider(" + a + ", " + b + ")", x ? h.rider(a, b) : p.rider(a, b));
            case 50:
                return told("sheet(" + b + ", " + a + ", " + n + ", " + c * 300 + ")",
                    x ? h.sheet(b, a, n, c * 300) : p.sheet(b, a, n, c * 300));
            default:
                return told("end(0)", (x ? h.end(0) : p.end(0)) ? 1 : 0);
        }
    }

    private long rowOf(boolean program, int i) {
        try {
            return program ? horse.row(i) : plain.row(i);
        } catch (NoSuchElementException e) {
            return THROWN;
        }
    }

    /** All that can be seen without a change. */
    private String looks() {
        for (int i = -1; i < 10; i++) {
            if (rowOf(true, i) != rowOf(false, i)) {
                return call + ": row(" + i + ") answered " + rowOf(true, i) + ", due is " + rowOf(false, i);
            }
        }
        for (int what = -1; what < 30; what++) {
            if (horse.count(what) != plain.count(what)) {
                return call + ": count(" + what + ") answered " + horse.count(what) + ", due is " + plain.count(what);
            }
        }
        for (int r = 0; r < plain.crew.size(); r++) {
            for (int what = 0; what < 6; what++) {
                if (horse.rider(r, what) != plain.rider(r, what)) {
                    return call + ": rider(" + r + ", " + what + ")";
                }
            }
            int h = to(8);
            if (horse.hard(r, h) != plain.hard(r, h)) {
                return call + ": hard(" + r + ", " + h + ")";
            }
        }
        return null;
    }
}
