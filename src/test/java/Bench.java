import java.io.IOException;
import java.nio.file.Files;
import java.nio.file.Path;
import java.util.ArrayList;
import java.util.List;
import java.util.NoSuchElementException;
import java.util.Set;
import java.util.TreeSet;
import java.util.function.Supplier;

/**
 * What the tests of boundary cases share. Each case stands under the sentence of the document that names
 * it; a refused call, or a question, is made on one of two like horses, which then must look alike.
 */
final class Bench {
    static final long THROWN = Long.MIN_VALUE;
    static final int MIN = Integer.MIN_VALUE;
    static final int MAX = Integer.MAX_VALUE;
    static final String CREW = "25abcd;17ac;32bd;49abcdefgh";
    private static final Path DOCUMENT = Path.of("../shared/DOC.md");

    /** One call and its answer, a boolean being 1 or 0. */
    interface Call {
        long on(RockingHorse x);
    }

    private final List<String> sentences = new ArrayList<>();
    private final Set<Integer> promises = new TreeSet<>();
    private String sentence = "";
    private int promise;
    private int asked;
    private int askedOfSentence = 1;
    private int wrong;
    RockingHorse x = new RockingHorse();

    /** The cases that follow are those of a sentence of a promise (0: of the terms). */
    void says(int promise, String sentence) {
        endSentence();
        this.promise = promise;
        this.sentence = sentence;
        askedOfSentence = 0;
        sentences.add(sentence);
        promises.add(promise);
    }

    private void endSentence() {
        if (askedOfSentence == 0) {
            fault("has no case");
        }
    }

    private void fault(String what) {
        wrong++;
        System.out.println((promise == 0 ? "terms" : "promise " + promise) + " \"" + sentence + "\": " + what);
    }

    void due(String what, long got, long want) {
        asked++;
        askedOfSentence++;
        if (got != want) {
            fault(what + " answered " + told(got) + ", due is " + told(want));
        }
    }

    void due(String what, boolean got, boolean want) {
        due(what, got ? 1 : 0, want ? 1 : 0);
    }

    private static String told(long v) {
        return v == THROWN ? "by throwing" : Long.toString(v);
    }

    /** The answer and the whole ROW. */
    void due(String what, long got, long want, long... row) {
        due(what, got, want);
        dueRow(what, row);
    }

    void dueRow(String what, long... row) {
        due(what + ": numbers of the ROW", x.count(10), row.length);
        for (int i = 0; i < row.length; i++) {
            due(what + ": row(" + i + ")", rowOf(x, i), row[i]);
        }
    }

    /** Whose each of the 8 HOURS is, - being nobody's. */
    void dueRota(String want) {
        StringBuilder got = new StringBuilder();
        for (int h = 0; h < 8; h++) {
            got.append(x.count(20 + h) == RockingHorse.NONE ? "-" : Integer.toString(x.count(20 + h)));
        }
        asked++;
        askedOfSentence++;
        if (!got.toString().equals(want)) {
            fault("THE ROTA is " + got + ", due is " + want);
        }
    }

    /** How TIRED the first RIDERS are. */
    void dueTired(int... want) {
        for (int r = 0; r < want.length; r++) {
            due("TIRED of " + r, x.rider(r, 3), want[r]);
        }
    }

    // ---- twins

    /** The call is refused, and nothing is another thing by it. */
    void refused(String what, Supplier<RockingHorse> made, Call call, long want) {
        RockingHorse one = made.get();
        due(what, call.on(one), want);
        alike(what + " changed", seen(one, true), seen(made.get(), true));
    }

    /** The call reads a text and refuses it: THE TEXT is empty, nothing else is another thing. */
    void refused(String what, Supplier<RockingHorse> made, String text, Call call, long want) {
        RockingHorse one = made.get();
        put(one, text);
        due(what + " '" + text + "'", call.on(one), want);
        RockingHorse other = made.get();
        other.end(0);
        alike(what + " '" + text + "' changed", seen(one, true), seen(other, true));
    }

    /** The call is a question: nothing but the ROW is another thing by it. */
    void question(String what, Supplier<RockingHorse> made, Call call) {
        RockingHorse one = made.get();
        call.on(one);
        alike(what + " changed", seen(one, false), seen(made.get(), false));
    }

    /** The question reads a text: nothing but the ROW and THE TEXT, which is empty, is another thing by it. */
    void question(String what, Supplier<RockingHorse> made, String text, Call call) {
        RockingHorse one = made.get();
        put(one, text);
        call.on(one);
        RockingHorse other = made.get();
        other.end(0);
        alike(what + " '" + text + "' changed", seen(one, false), seen(other, false));
    }

    private void alike(String what, List<String> got, List<String> want) {
        asked++;
        askedOfSentence++;
        for (int i = 0; i < Math.max(got.size(), want.size()); i++) {
            String g = i < got.size() ? got.get(i) : "nothing";
            String w = i < want.size() ? want.get(i) : "nothing";
            if (!g.equals(w)) {
                fault(what + " something: " + g + ", due is " + w);
                return;
            }
        }
    }

    /** All that can be seen of a horse, which is used up by it. */
    private static List<String> seen(RockingHorse x, boolean withRow) {
        List<String> seen = new ArrayList<>();
        for (int what = 0; what <= 11; what++) {
            if (what != 10 || withRow) {
                seen.add("count(" + what + ") " + x.count(what));
            }
        }
        for (int i = 0; withRow && i < x.count(10); i++) {
            seen.add("row(" + i + ") " + x.row(i));
        }
        for (int r = 0; r < x.count(2); r++) {
            for (int what = 0; what < 3; what++) {
                seen.add("rider(" + r + ", " + what + ") " + x.rider(r, what));
            }
            for (int h = 0; h < 8; h += 3) {
                seen.add("hard(" + r + ", " + h + ") " + x.hard(r, h));
            }
        }
        seen.add("law() of THE TEXT " + x.law());
        seen.add("fits() " + x.fits() + " later(9) " + x.later(9) + " of TIRED " + rowOf(x, 0));
        seen.add("changes() " + x.changes() + " of them slow " + rowOf(x, 0));
        seen.add("now" + state(x));
        for (int i = 0; i < 14; i++) {
            seen.add("undo() " + x.undo() + state(x));
        }
        for (int i = 0; i < 2; i++) {
            seen.add("again(" + i + ") " + x.again(i) + state(x));
        }
        return seen;
    }

    /** What undo() brings back. */
    private static String state(RockingHorse x) {
        StringBuilder state = new StringBuilder();
        for (int what = 3; what <= 6; what++) {
            state.append(" ").append(x.count(what));
        }
        for (int h = 0; h < 8; h++) {
            state.append(" ").append(x.count(20 + h));
        }
        for (int r = 0; r < x.count(2); r++) {
            state.append(" ").append(x.rider(r, 3));
        }
        return state.toString();
    }

    // ---- calls

    static void put(RockingHorse x, String text) {
        x.end(0);
        for (int p = 0; p < text.length(); p += 4) {
            int v = 0;
            for (int k = 0; k < 4; k++) {
                v = v << 8 | (p + k < text.length() ? text.charAt(p + k) : 0);
            }
            x.sign(v);
        }
        x.end(text.length());
    }

    int riders(String text) {
        put(x, text);
        return x.riders();
    }

    int rule(String text) {
        put(x, text);
        return x.rule();
    }

    int rota(String text) {
        put(x, text);
        return x.rota();
    }

    int year(String text) {
        put(x, text);
        return x.year();
    }

    int law(String text) {
        put(x, text);
        return x.law();
    }

    static long riderOf(RockingHorse x, int rider, int what) {
        try {
            return x.rider(rider, what);
        } catch (NoSuchElementException e) {
            return THROWN;
        }
    }

    static long rowOf(RockingHorse x, int i) {
        try {
            return x.row(i);
        } catch (NoSuchElementException e) {
            return THROWN;
        }
    }

    /** A new horse, with so many HOURS a NIGHT and these RIDERS. */
    void anew(int hours, String crew) {
        x = made(hours, crew);
    }

    static RockingHorse made(int hours, String crew) {
        RockingHorse x = new RockingHorse();
        x.set(0, hours);
        put(x, crew);
        x.riders();
        return x;
    }

    /** As many HOURS and RIDERS as there can be, and what can be asked of them. */
    static RockingHorse full() {
        RockingHorse x = made(8, "45abcd;31efg;27h;29abcdefgh");
        put(x, "12acegh;23bdf;38abgh;16cdef");
        x.riders();
        put(x, "w*3+h*i+t/5");
        x.rule();
        put(x, "01234567");
        x.rota();
        x.nights(1);
        x.found(3, 3, 0);
        x.found(6, 6, 1);
        return x;
    }

    /** A horse of which all that can be another thing than at first is one. */
    static RockingHorse rich() {
        RockingHorse x = made(4, CREW);
        x.set(1, 3);
        put(x, "t/3+w*2+h");
        x.rule();
        put(x, "0213");
        x.rota();
        x.nights(2);
        x.keep(0);
        x.ill(1);
        x.give(6, 2);
        x.give(7, 0);
        x.keep(1);
        put(x, "n1g0-");
        x.year();
        x.found(0, 3, 0);
        x.found(2, 0, 1);
        x.found(7, 1, 1);
        x.paid(0);
        put(x, "w*3");
        return x;
    }

    /** Two HOURS that nobody holds together, with a ROW of one number, 99. */
    static RockingHorse unheld() {
        RockingHorse x = made(2, "11ab;11;49cdefgh");
        put(x, "99");
        x.rule();
        x.give(0, 0);
        x.give(5, 2);
        x.nights(1);
        x.shared(1, 2);
        put(x, "w*3");
        return x;
    }

    // ---- the end

    /** Each sentence that is quoted stands in the document, where that can be read. */
    private void lookUpSentences() throws IOException {
        if (!Files.isReadable(DOCUMENT)) {
            System.out.println(DOCUMENT + " can't be read: the sentences were not looked up");
            return;
        }
        String document = Files.readString(DOCUMENT).replaceAll("\\s+", " ");
        for (String s : sentences) {
            if (!document.contains(s)) {
                wrong++;
                System.out.println("not in the document: \"" + s + "\"");
            }
        }
    }

    /** Tells how it went, each promise from one to another having a case; ends with 1 if one was not as due. */
    void end(int from, int to) throws IOException {
        endSentence();
        lookUpSentences();
        for (int p = from; p <= to; p++) {
            if (!promises.contains(p)) {
                wrong++;
                System.out.println("no sentence of promise " + p);
            }
        }
        System.out.println(sentences.size() + " sentences, " + asked + " cases, " + wrong + " not as due");
        if (wrong != 0) {
            System.exit(1);
        }
    }
}
