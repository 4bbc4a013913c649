import java.util.ArrayDeque;
import java.util.ArrayList;
import java.util.Arrays;
import java.util.List;
import java.util.NoSuchElementException;

/** The document's promises once more, as plainly as can be: all rotas are listed one by one. */
final class PlainHorse {
    static final class Fault extends RuntimeException {
        private static final long serialVersionUID = 1L;
        final int place;

        Fault(int place) {
            super(null, null, false, false);
            this.place = place;
        }
    }

    static final class Mind {
        int[] rota = {-1, -1, -1, -1, -1, -1, -1, -1};
        int[] tired = new int[8];
        boolean[] ill = new boolean[8];
        int night;
        int gaps;
        int ridden;

        Mind copy() {
            Mind m = new Mind();
            m.rota = rota.clone();
            m.tired = tired.clone();
            m.ill = ill.clone();
            m.night = night;
            m.gaps = gaps;
            m.ridden = ridden;
            return m;
        }
    }

    String text = "";
    String rule = "t+w+(h>5)*9";
    int hours = 8;
    int beats = 4;
    List<int[]> crew = new ArrayList<>(); // most, width, can
    Mind mind = new Mind();
    ArrayDeque<Mind> past = new ArrayDeque<>();
    Mind[] kept = new Mind[2];
    List<int[]> findings = new ArrayList<>();
    long[] row = {};
    List<Integer> nightGaps = new ArrayList<>();
    List<Integer> nightRode = new ArrayList<>();

    // ---- texts

    int sign(int v) {
        if (text.length() > 76) {
            return -1;
        }
        text += "" + (char) (v >>> 24) + (char) (v >> 16 & 255) + (char) (v >> 8 & 255) + (char) (v & 255);
        return text.length();
    }

    boolean end(int n) {
        if (n < 0 || n > text.length()) {
            return false;
        }
        text = text.substring(0, n);
        return true;
    }

    String taken() {
        String t = text;
        text = "";
        return t;
    }

    /** The sign at a place; behind the text or the limit nothing can stand. */
    static char need(String t, int p, int limit) {
        if (p >= t.length() || p >= limit) {
            throw new Fault(Math.min(p, limit));
        }
        return t.charAt(p);
    }

    int riders() {
        String t = taken();
        if (t.isEmpty()) {
            return 0;
        }
        List<int[]> come = new ArrayList<>();
        try {
            int p = 0;
            while (true) {
                char c = need(t, p, 76);
                if (crew.size() + come.size() == 8 || "1234".indexOf(c) < 0) {
                    throw new Fault(p);
                }
                char d = need(t, p + 1, 76);
                if ("123456789".indexOf(d) < 0) {
                    throw new Fault(p + 1);
                }
                p += 2;
                int[] line = {c - '0', d - '0', 0};
                char last = 'a' - 1;
                while (p < t.length() && p < 76 && t.charAt(p) > last && t.charAt(p) <= 'h') {
                    last = t.charAt(p);
                    line[2] |= 1 << (last - 'a');
                    p++;
                }
                come.add(line);
                if (p == t.length()) {
                    break;
                }
                if (p == 76 || t.charAt(p) != ';') {
                    throw new Fault(p);
                }
                p++;
            }
        } catch (Fault f) {
            return -1 - f.place;
        }
        crew.addAll(come);
        past.clear();
        Arrays.fill(kept, null);
        return come.size();
    }

    /** Reckons while it reads; things null: reads alone. */
    static final class Reader {
        final String t;
        final int[] things;
        int p;

        Reader(String t, int[] things) {
            this.t = t;
            this.things = things;
        }

        int peek() {
            return p < t.length() && p < 40 ? t.charAt(p) : -1;
        }

        int whole() {
            int v = expression(0);
            if (p != t.length()) {
                throw new Fault(p);
            }
            return v;
        }

        int expression(int depth) {
            int a = sum(depth);
            int c = peek();
            if (c == '<' || c == '>' || c == '=') {
                p++;
                int b = sum(depth);
                return (c == '<' ? a < b : c == '>' ? a > b : a == b) ? 1 : 0;
            }
            return a;
        }

        int sum(int depth) {
            int a = product(depth);
            while (peek() == '+' || peek() == '-') {
                char c = t.charAt(p++);
                int b = product(depth);
                a = c == '+' ? a + b : a - b;
            }
            return a;
        }

        int product(int depth) {
            int a = thing(depth);
            while (peek() == '*' || peek() == '/') {
                char c = t.charAt(p++);
                int b = thing(depth);
                a = c == '*' ? a * b : b == 0 ? 0 : a / b;
            }
            return a;
        }

        int thing(int depth) {
            int c = peek();
            if (c == '-') {
                p++;
                return -thing(depth);
            }
            if (c == '(' && depth < 4) {
                p++;
                int v = expression(depth + 1);
                if (peek() != ')') {
                    throw new Fault(p);
                }
                p++;
                return v;
            }
            if (c >= '0' && c <= '9') {
                int from = p;
                while (p < from + 3 && peek() >= '0' && peek() <= '9') {
                    p++;
                }
                return Integer.parseInt(t.substring(from, p));
            }
            if (c < 0 || "htwminc".indexOf(c) < 0) {
                throw new Fault(p);
            }
            p++;
            return things == null ? 1 : things["htwminc".indexOf(c)];
        }
    }

    static String readRule(String t) {
        if (t.isEmpty()) {
            return "t+w+(h>5)*9";
        }
        new Reader(t, null).whole();
        return t;
    }

    int rule() {
        try {
            rule = readRule(taken());
            return 0;
        } catch (Fault f) {
            return -1 - f.place;
        }
    }

    boolean has(int r) {
        return r >= 0 && r < crew.size();
    }

    boolean can(int r, int h) {
        return (crew.get(r)[2] >> h & 1) == 1;
    }

    int rider(int r, int what) {
        if (!has(r) || what < 0 || what > 5) {
            throw new NoSuchElementException();
        }
        int bits = 0;
        for (int h = 0; h < 8; h++) {
            bits |= mind.rota[h] == r ? 1 << h : 0;
        }
        return what < 3 ? crew.get(r)[what] : what == 3 ? mind.tired[r] : what == 4 ? mind.ill[r] ? 1 : 0 : bits;
    }

    int hardBy(String by, Mind m, int r, int h) {
        int[] c = crew.get(r);
        int[] things = {h, m.tired[r], c[1], c[0], r, m.night % 7, Integer.bitCount(c[2])};
        return Math.max(0, Math.min(999, new Reader(by, things).whole()));
    }

    int hardNow(int r, int h) {
        return hardBy(rule, mind, r, h);
    }

    int hard(int r, int h) {
        return has(r) && h >= 0 && h < 8 ? hardNow(r, h) : -1;
    }

    int set(int what, int v) {
        int old = -1;
        if (what == 0 && v >= 1 && v <= 8) {
            old = hours;
            hours = v;
        }
        if (what == 1 && v >= 0 && v <= 9) {
            old = beats;
            beats = v;
        }
        return old;
    }

    int sheet(int kind, int n, int f, int step) {
        if (kind < 0 || kind > 3 || n > 8) {
            return -1;
        }
        if (kind < 3 && n < 0) {
            return -2;
        }
        Arrays.fill(mind.tired, 0);
        if (kind == 3) {
            return -3;
        }
        int v = f;
        for (int r = 0; r < n; r++) {
            int e = kind == 0 ? (byte) v : kind == 1 ? (short) v : v;
            if (has(r)) {
                mind.tired[r] = e < 0 ? 0 : e > 99 ? 99 : e;
            }
            v += step;
        }
        return Arrays.stream(mind.tired).sum();
    }

    // ---- nights

    void remember(Mind m) {
        past.push(m);
        if (past.size() > 12) {
            past.removeLast();
        }
    }

    int rota() {
        String t = taken();
        int[] anew = {-1, -1, -1, -1, -1, -1, -1, -1};
        int some = 0;
        for (int p = 0; p < hours; p++) {
            if (p >= t.length()) {
                return -1 - p;
            }
            char c = t.charAt(p);
            if (c >= '0' && c <= '9' && has(c - '0')) {
                anew[p] = c - '0';
                some++;
            } else if (c != '-') {
                return -1 - p;
            }
        }
        if (t.length() > hours) {
            return -1 - hours;
        }
        remember(mind.copy());
        mind.rota = anew;
        return some;
    }

    int give(int h, int r) {
        if (h < 0 || h > 7 || r != -1 && !has(r)) {
            return -2;
        }
        remember(mind.copy());
        int old = mind.rota[h];
        mind.rota[h] = r;
        return old;
    }

    int illOnes(Mind m) {
        int bits = 0;
        for (int r = 0; r < 8; r++) {
            bits |= m.ill[r] ? 1 << r : 0;
        }
        return bits;
    }

    int ill(int r) {
        if (!has(r)) {
            return -1;
        }
        remember(mind.copy());
        mind.ill[r] = !mind.ill[r];
        return Integer.bitCount(illOnes(mind));
    }

    /** A NIGHT passes: its gaps and its ridden hours are the last of the two lists. */
    void pass(Mind m) {
        int[] times = new int[8];
        int[] rodeBy = new int[8];
        int[] more = new int[8];
        int gapBits = 0;
        int rodeBits = 0;
        for (int h = 0; h < hours; h++) {
            int r = m.rota[h];
            rodeBy[h] = -1;
            if (r < 0 || !can(r, h) || m.ill[r] || times[r] >= crew.get(r)[0]) {
                gapBits |= 1 << h;
                continue;
            }
            rodeBy[h] = r;
            times[r]++;
            rodeBits |= 1 << h;
            more[r] += hardBy(rule, m, r, h);
            if (h > 0 && rodeBy[h - 1] >= 0 && rodeBy[h - 1] != r
                && Math.abs(crew.get(r)[1] - crew.get(rodeBy[h - 1])[1]) > beats) {
                gapBits |= 1 << h;
            }
        }
        for (int r = 0; r < crew.size(); r++) {
            m.tired[r] = times[r] > 0 ? Math.min(99, m.tired[r] + more[r]) : Math.max(0, m.tired[r] - 5);
        }
        m.gaps += Integer.bitCount(gapBits);
        m.ridden += Integer.bitCount(rodeBits);
        m.night++;
        nightGaps.add(gapBits);
        nightRode.add(rodeBits);
    }

    /** The next n nights of a mind, which goes along. */
    void run(Mind m, int n) {
        nightGaps.clear();
        nightRode.clear();
        for (int i = 0; i < n; i++) {
            pass(m);
        }
    }

    void tell(long... numbers) {
        row = numbers;
    }

    int tiredOf(Mind m) {
        return Arrays.stream(m.tired).sum();
    }

    int nights(int n) {
        if (n < 0 || n > 30) {
            return -1;
        }
        Mind old = mind.copy();
        if (n > 0) {
            remember(old);
        }
        run(mind, n);
        tell(mind.ridden - old.ridden, tiredOf(mind));
        return mind.gaps - old.gaps;
    }

    int year() {
        String t = taken();
        List<String> acts = new ArrayList<>();
        int p = 0;
        while (p < t.length()) {
            if (p >= 60) {
                return -61;
            }
            char c = t.charAt(p);
            if ("nigx".indexOf(c) < 0) {
                return -1 - p;
            }
            int signs = "ni".indexOf(c) >= 0 ? 2 : 3;
            for (int k = 1; k < signs; k++) {
                if (p + k >= t.length() || p + k >= 60) {
                    return -1 - p - k;
                }
                char d = t.charAt(p + k);
                boolean fine = d >= '0' && d <= '9' || c == 'g' && k == 2 && d == '-';
                if (!fine) {
                    return -1 - p - k;
                }
            }
            acts.add(t.substring(p, p + signs));
            p += signs;
        }
        Mind old = mind.copy();
        int done = 0;
        boolean could = true;
        for (String a : acts) {
            could = act(a);
            if (!could) {
                break;
            }
            done++;
        }
        if (done > 0) {
            remember(old);
        }
        tell(could ? 0 : 1, mind.gaps);
        return done;
    }

    boolean act(String a) {
        int x = a.charAt(1) - '0';
        int y = a.length() < 3 ? 0 : a.charAt(2) == '-' ? -1 : a.charAt(2) - '0';
        switch (a.charAt(0)) {
            case 'n':
                run(mind, x);
                return true;
            case 'i':
                if (has(x)) {
                    mind.ill[x] = !mind.ill[x];
                }
                return has(x);
            case 'g':
                if (x > 7 || y >= crew.size()) {
                    return false;
                }
                mind.rota[x] = y;
                return true;
            default:
                if (x == y || !has(x) || !has(y)) {
                    return false;
                }
                for (int h = 0; h < 8; h++) {
                    int r = mind.rota[h];
                    mind.rota[h] = r == x ? y : r == y ? x : r;
                }
                return true;
        }
    }

    int undo() {
        if (past.isEmpty()) {
            return -1;
        }
        mind = past.pop();
        return past.size();
    }

    // ---- how it goes

    int gaps() {
        run(mind.copy(), 1);
        tell(Integer.bitCount(nightGaps.get(0)), nightRode.get(0));
        return nightGaps.get(0);
    }

    int first(int n) {
        if (n < 1 || n > 60) {
            return -1;
        }
        run(mind.copy(), n);
        for (int i = 0; i < n; i++) {
            if (nightGaps.get(i) != 0) {
                tell(Integer.numberOfTrailingZeros(nightGaps.get(i)));
                return i;
            }
        }
        return -2;
    }

    int later(int n) {
        if (n < 0 || n > 60) {
            return -1;
        }
        Mind m = mind.copy();
        run(m, n);
        tell(tiredOf(m), Arrays.stream(m.tired).max().getAsInt());
        return nightGaps.stream().mapToInt(Integer::bitCount).sum();
    }

    int vigil(int n) {
        if (n < 0 || n > 60) {
            return -1;
        }
        run(mind.copy(), n);
        for (int length = n; length > 0; length--) {
            for (int from = 0; from + length <= n; from++) {
                if (nightGaps.subList(from, from + length).stream().allMatch(g -> g == 0)) {
                    tell(from);
                    return length;
                }
            }
        }
        tell(-1);
        return 0;
    }

    int trade() {
        if (hours == 1) {
            return -2;
        }
        run(mind.copy(), 1);
        int asIs = Integer.bitCount(nightGaps.get(0));
        int best = 99;
        for (int a = 0; a < hours; a++) {
            for (int b = a + 1; b < hours; b++) {
                Mind m = mind.copy();
                m.rota[a] = mind.rota[b];
                m.rota[b] = mind.rota[a];
                run(m, 1);
                if (Integer.bitCount(nightGaps.get(0)) < best) {
                    best = Integer.bitCount(nightGaps.get(0));
                    tell(a, b, asIs);
                }
            }
        }
        return best;
    }

    // ---- rotas

    /** All HELD rotas by the riders of a set, in the order of their rows. */
    List<int[]> heldBy(int who) {
        List<int[]> all = new ArrayList<>();
        fill(who & ~illOnes(mind), new int[hours], 0, new int[8], all);
        return all;
    }

    void fill(int who, int[] r, int h, int[] times, List<int[]> all) {
        if (h == hours) {
            all.add(r.clone());
            return;
        }
        for (int x = 0; x < crew.size(); x++) {
            if ((who >> x & 1) == 1 && can(x, h) && times[x] < crew.get(x)[0]) {
                times[x]++;
                r[h] = x;
                fill(who, r, h + 1, times, all);
                times[x]--;
            }
        }
    }

    boolean some(int who, int theseHours, int h, int[] times) {
        if (h == hours) {
            return true;
        }
        if ((theseHours >> h & 1) == 0) {
            return some(who, theseHours, h + 1, times);
        }
        for (int x = 0; x < crew.size(); x++) {
            if ((who >> x & 1) == 1 && !mind.ill[x] && can(x, h) && times[x] < crew.get(x)[0]) {
                times[x]++;
                boolean yes = some(who, theseHours, h + 1, times);
                times[x]--;
                if (yes) {
                    return true;
                }
            }
        }
        return false;
    }

    boolean holdable(int who) {
        return some(who, 255, 0, new int[8]);
    }

    void tellRow(int[] r) {
        row = Arrays.stream(r).asLongStream().toArray();
    }

    /** How hard each hour is for each rider now. */
    int[][] hards() {
        int[][] all = new int[crew.size()][8];
        for (int r = 0; r < crew.size(); r++) {
            for (int h = 0; h < 8; h++) {
                all[r][h] = hardNow(r, h);
            }
        }
        return all;
    }

    int[] easiestBy(int who) {
        int[][] hards = hards();
        int[] best = null;
        int least = Integer.MAX_VALUE;
        for (int[] r : heldBy(who)) {
            int v = 0;
            for (int h = 0; h < hours; h++) {
                v += hards[r[h]][h];
            }
            if (v < least) {
                least = v;
                best = r;
            }
        }
        return best;
    }

    int hardOf(int[] r) {
        int v = 0;
        for (int h = 0; h < hours; h++) {
            v += hardNow(r[h], h);
        }
        return v;
    }

    int easiest() {
        int[] best = easiestBy(255);
        if (best == null) {
            return -2;
        }
        tellRow(best);
        return hardOf(best);
    }

    int fewest() {
        for (int n = 1; n <= 8; n++) {
            for (int who = 0; who < 256; who++) {
                if (Integer.bitCount(who) == n && holdable(who)) {
                    tell(who);
                    return n;
                }
            }
        }
        return -2;
    }

    int bare() {
        for (int n = 1; n <= hours; n++) {
            for (int set = 0; set < 1 << hours; set++) {
                if (Integer.bitCount(set) == n && !some(255, set, 0, new int[8])) {
                    tell(set);
                    return n;
                }
            }
        }
        return -2;
    }

    int tellFirst(List<int[]> all) {
        tell();
        if (!all.isEmpty()) {
            tellRow(all.get(0));
        }
        return all.size();
    }

    int rotas() {
        return tellFirst(heldBy(255));
    }

    int mended(int rider) {
        if (!has(rider)) {
            return -1;
        }
        int[] best = null;
        int least = 99;
        for (int[] r : heldBy(255 & ~(1 << rider))) {
            int v = 0;
            for (int h = 0; h < hours; h++) {
                v += r[h] == mind.rota[h] ? 0 : 1;
            }
            if (v < least) {
                least = v;
                best = r;
            }
        }
        if (best == null) {
            return -2;
        }
        tellRow(best);
        return least;
    }

    int takes() {
        int[] best = easiestBy(255);
        if (best == null) {
            return -2;
        }
        remember(mind.copy());
        int changed = 0;
        for (int h = 0; h < hours; h++) {
            changed += best[h] == mind.rota[h] ? 0 : 1;
            mind.rota[h] = best[h];
        }
        return changed;
    }

    int missed(int rider) {
        if (!has(rider)) {
            return -1;
        }
        int[] is = easiestBy(255);
        int[] would = easiestBy(255 & ~(1 << rider));
        return is == null || would == null ? -2 : hardOf(would) - hardOf(is);
    }

    int paid(int rider) {
        if (!has(rider)) {
            return -1;
        }
        int[] is = easiestBy(255);
        int[] would = easiestBy(255 & ~(1 << rider));
        if (is == null || would == null) {
            return -2;
        }
        int own = 0;
        int others = 0;
        for (int h = 0; h < hours; h++) {
            if (is[h] == rider) {
                own += hardNow(rider, h);
            } else {
                others += hardNow(is[h], h);
            }
        }
        tell(own, others);
        return hardOf(would) - others;
    }

    int fairest() {
        int[][] hards = hards();
        int least = Integer.MAX_VALUE;
        int together = 0;
        for (int[] r : heldBy(255)) {
            int[] own = new int[8];
            int sum = 0;
            for (int h = 0; h < hours; h++) {
                own[r[h]] += hards[r[h]][h];
                sum += hards[r[h]][h];
            }
            int most = Arrays.stream(own).max().getAsInt();
            if (most < least || most == least && sum < together) {
                least = most;
                together = sum;
            }
        }
        if (least == Integer.MAX_VALUE) {
            return -2;
        }
        tell(together);
        return least;
    }

    int wellOnes() {
        return ((1 << crew.size()) - 1) & ~illOnes(mind);
    }

    int away() {
        int well = wellOnes();
        for (int n = 8; n >= 0; n--) {
            for (int gone = 0; gone < 256; gone++) {
                if ((gone & ~well) == 0 && Integer.bitCount(gone) == n && holdable(well & ~gone)) {
                    tell(gone);
                    return n;
                }
            }
        }
        return -2;
    }

    int able(int h) {
        if (h < 0 || h > 7) {
            return -1;
        }
        List<Integer> who = new ArrayList<>();
        for (int r = 0; r < crew.size(); r++) {
            if (!mind.ill[r] && can(r, h)) {
                who.add(r);
            }
        }
        who.sort((a, b) -> Integer.compare(hardNow(a, h), hardNow(b, h)));
        row = who.stream().mapToLong(r -> r).toArray();
        return who.size();
    }

    int spent(int v) {
        if (v < 0 || v > 999) {
            return -1;
        }
        int who = 0;
        int most = 0;
        for (int r = 0; r < crew.size(); r++) {
            for (int h = 0; h < 8; h++) {
                if (can(r, h) && hardNow(r, h) > v) {
                    who |= 1 << r;
                    most = Math.max(most, hardNow(r, h));
                }
            }
        }
        tell(Integer.bitCount(who), most);
        return who;
    }

    int shared(int a, int b) {
        if (!has(a) || !has(b) || a == b) {
            return -1;
        }
        tell(255 ^ (crew.get(a)[2] | crew.get(b)[2]));
        return crew.get(a)[2] & crew.get(b)[2];
    }

    int thin() {
        int which = -1;
        long[] n = new long[hours];
        for (int h = 0; h < hours; h++) {
            for (int r = 0; r < crew.size(); r++) {
                n[h] += !mind.ill[r] && can(r, h) ? 1 : 0;
            }
            which = which < 0 || n[h] < n[which] ? h : which;
        }
        tell(n[which]);
        return which;
    }

    // ---- changes

    int changes() {
        int times = 0;
        int slow = 0;
        int sum = 0;
        for (int h = 0; h + 1 < 8; h++) {
            int a = mind.rota[h];
            int b = mind.rota[h + 1];
            if (a >= 0 && b >= 0 && a != b) {
                int d = Math.abs(crew.get(a)[1] - crew.get(b)[1]);
                times++;
                slow += d > beats ? 1 : 0;
                sum += d;
            }
        }
        tell(slow, sum);
        return times;
    }

    int smoothest() {
        int[] best = null;
        int least = Integer.MAX_VALUE;
        for (int[] r : heldBy(255)) {
            int v = 0;
            for (int h = 1; h < hours; h++) {
                v += Math.abs(crew.get(r[h])[1] - crew.get(r[h - 1])[1]);
            }
            if (v < least) {
                least = v;
                best = r;
            }
        }
        if (best == null) {
            return -2;
        }
        tellRow(best);
        return least;
    }

    int meets(int a, int b, int p) {
        if (!has(a) || !has(b) || a == b || p < 2 || p > 40) {
            return -1;
        }
        int at = -2;
        int n = 0;
        for (int s = 1; s <= 999; s++) {
            if ((crew.get(a)[1] * s + a) % p == (crew.get(b)[1] * s + b) % p) {
                at = n == 0 ? s : at;
                n++;
            }
        }
        if (n > 0) {
            tell((crew.get(a)[1] * at + a) % p, n);
        }
        return at;
    }

    // ---- who rode when

    int found(int h, int r, int is) {
        if (h < 0 || h > 7 || !has(r) || is < 0 || is > 1 || findings.size() == 12) {
            return -1;
        }
        findings.add(new int[] {h, r, is});
        return findings.size();
    }

    int forget() {
        int n = findings.size();
        findings.clear();
        return n;
    }

    List<int[]> fitting() {
        List<int[]> all = heldBy(255);
        all.removeIf(r -> findings.stream().anyMatch(f -> f[0] < hours && (r[f[0]] == f[1]) != (f[2] == 1)));
        return all;
    }

    int fits() {
        return tellFirst(fitting());
    }

    static long shares(long a, long b) {
        return b == 0 ? a : shares(b, a % b);
    }

    void tellFraction(long a, long b) {
        tell(a / shares(a, b), b / shares(a, b));
    }

    int sure(int h, int r) {
        if (h < 0 || h >= hours || !has(r)) {
            return -1;
        }
        List<int[]> all = fitting();
        if (all.isEmpty()) {
            return -2;
        }
        int n = (int) all.stream().filter(x -> x[h] == r).count();
        tellFraction(n, all.size());
        return n;
    }

    int ask() {
        List<int[]> all = fitting();
        if (all.isEmpty()) {
            return -2;
        }
        int which = -1;
        int least = Integer.MAX_VALUE;
        for (int h = 0; h < hours; h++) {
            int[] n = new int[8];
            for (int[] r : all) {
                n[r[h]]++;
            }
            int most = Arrays.stream(n).max().getAsInt();
            if (most < least) {
                least = most;
                which = h;
            }
        }
        tell(least);
        return which;
    }

    // ---- chances, bids, rules, years

    /** Rider by rider, from the first on: well by 10 - p, ill by p tenths. */
    long chance(int among, int stay, int r, int p) {
        if (r == 8) {
            return holdable(stay) ? 1 : 0;
        }
        if ((among >> r & 1) == 0) {
            return chance(among, stay, r + 1, p);
        }
        return (10 - p) * chance(among, stay | 1 << r, r + 1, p) + p * chance(among, stay, r + 1, p);
    }

    int held(int p) {
        if (p < 0 || p > 10) {
            return -1;
        }
        tellFraction(chance(wellOnes(), 0, 0, p), Math.round(Math.pow(10, Integer.bitCount(wellOnes()))));
        return 0;
    }

    int keystone(int p) {
        if (p < 0 || p > 10) {
            return -1;
        }
        int which = -2;
        long least = Long.MAX_VALUE;
        for (int r = 0; r < 8; r++) {
            if ((wellOnes() >> r & 1) == 1) {
                long v = chance(wellOnes() & ~(1 << r), 0, 0, p);
                if (v < least) {
                    least = v;
                    which = r;
                }
            }
        }
        if (which >= 0) {
            tellFraction(least, Math.round(Math.pow(10, Integer.bitCount(wellOnes()) - 1)));
        }
        return which;
    }

    static int gain(int x, int y, int v, int w, boolean one) {
        return x >= y ? one ? v - y : 0 : one ? 0 : w - x;
    }

    int rests(int v, int w) {
        if (v < 0 || v > 9 || w < 0 || w > 9) {
            return -1;
        }
        int n = 0;
        int has = 0;
        tell();
        for (int x = 0; x <= 9; x++) {
            for (int y = 0; y <= 9; y++) {
                boolean rests = true;
                for (int z = 0; z <= 9; z++) {
                    rests &= gain(z, y, v, w, true) <= gain(x, y, v, w, true);
                    rests &= gain(x, z, v, w, false) <= gain(x, y, v, w, false);
                }
                if (rests) {
                    n++;
                    has += x >= y ? 1 : 0;
                    row = n == 1 ? new long[] {x, y, 0} : row;
                    row[2] = has;
                }
            }
        }
        return n;
    }

    int law() {
        String by;
        try {
            by = readRule(taken());
        } catch (Fault f) {
            return -10000 - f.place;
        }
        int one = 0;
        int other = 0;
        for (int h = 0; h < hours; h++) {
            if (mind.rota[h] >= 0) {
                one += hardBy(by, mind, mind.rota[h], h);
                other += hardNow(mind.rota[h], h);
            }
        }
        tell(one, other);
        return one - other;
    }

    int drawn;

    int draw(int n) {
        drawn = drawn * 1103515245 + 12345;
        return (int) ((drawn & 0xffffffffL) / 65536 % n);
    }

    int years(int seed, int n) {
        if (n < 1 || n > 60) {
            return -1;
        }
        Mind m = mind.copy();
        drawn = seed;
        for (int i = 0; i < n; i++) {
            int d = draw(4);
            if (d < 2) {
                pass(m);
            } else if (!crew.isEmpty() && d == 2) {
                int r = draw(crew.size());
                m.ill[r] = !m.ill[r];
            } else if (!crew.isEmpty()) {
                int h = draw(8);
                m.rota[h] = draw(crew.size());
            }
        }
        tell(m.ridden - mind.ridden, tiredOf(m));
        return m.gaps - mind.gaps;
    }

    // ---- kept

    boolean keep(int i) {
        if (i != 0 && i != 1) {
            return false;
        }
        kept[i] = mind.copy();
        return true;
    }

    boolean again(int i) {
        if (i != 0 && i != 1 || kept[i] == null) {
            return false;
        }
        mind = kept[i].copy();
        past.clear();
        return true;
    }

    int count(int what) {
        int[] counts = {hours, beats, crew.size(), illOnes(mind), mind.night, mind.gaps, mind.ridden,
            tiredOf(mind), findings.size(), past.size(), row.length, text.length()};
        if (what >= 0 && what < counts.length) {
            return counts[what];
        }
        return what >= 20 && what <= 27 ? mind.rota[what - 20] : -100;
    }

    long row(int i) {
        if (i < 0 || i >= row.length) {
            throw new NoSuchElementException();
        }
        return row[i];
    }
}
