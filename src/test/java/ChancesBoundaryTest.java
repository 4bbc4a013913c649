import java.io.IOException;
import java.util.function.Supplier;

/**
 * The boundary cases of who rode when, chances, bids, rules, years, and what is kept (promises 38 to 51), each
 * under its own sentence.
 */
public final class ChancesBoundaryTest {
    private static final Bench b = new Bench();

    public static void main(String[] args) throws IOException {
        findings();
        forgets();
        fitting();
        sureOnes();
        asks();
        heldOnes();
        keystones();
        bids();
        laws();
        drawnYears();
        keeps();
        againOnes();
        counts();
        rows();
        b.end(38, 51);
    }

    private static void findings() {
        b.says(38, "It was found that a RIDER rode in an HOUR (0 .. 7; is 1), or did not (0): how many findings.");
        b.anew(2, "21ab;21ab;21ab");
        b.due("rode", b.x.found(0, 1, 1), 1);
        b.due("three of nine", b.x.fits(), 3, 1, 0);
        b.due("did not", b.x.found(1, 0, 0), 2);
        b.due("two of nine", b.x.fits(), 2, 1, 1);
        b.due("the same again", b.x.found(1, 0, 0), 3);
        b.due("two of nine", b.x.fits(), 2, 1, 1);
        b.due("HOUR 7", b.x.found(7, 2, 0), 4);
        b.says(38, "(Those of HOURS that a NIGHT has not tell nothing.)");
        b.due("HOUR 2 of 2", b.x.found(2, 0, 1), 5);
        b.due("HOUR 2 of 2, against it", b.x.found(2, 0, 0), 6);
        b.due("two yet", b.x.fits(), 2, 1, 1);
        b.riders("41abcdefgh");
        b.x.set(0, 3);
        b.due("a NIGHT has it now", b.x.fits(), 0);
        b.dueRow("a NIGHT has it now");
        b.x.set(0, 2);
        b.due("a NIGHT has it no more", b.x.fits(), 3, 1, 1);
        b.says(38, "Refused: others, 12.");
        int[][] others = {{-1, 0, 0}, {8, 0, 0}, {0, -1, 0}, {0, 4, 0}, {0, 0, -1}, {0, 0, 2}, {Bench.MIN, 0, 0},
            {Bench.MAX, 0, 0}, {0, Bench.MIN, 0}, {0, Bench.MAX, 0}, {0, 0, Bench.MIN}, {0, 0, Bench.MAX}};
        for (int[] o : others) {
            b.refused("found(" + o[0] + ", " + o[1] + ", " + o[2] + ")", Bench::rich,
                x -> x.found(o[0], o[1], o[2]), -1);
        }
        Supplier<RockingHorse> twelve = () -> {
            RockingHorse x = Bench.rich();
            for (int i = 0; i < 9; i++) {
                x.found(7, 3, i & 1);
            }
            return x;
        };
        b.x = Bench.rich();
        for (int i = 4; i <= 12; i++) {
            b.due("finding " + i, b.x.found(7, 3, 0), i);
        }
        b.refused("a 13th", twelve, x -> x.found(0, 0, 0), -1);
        b.x.forget();
        b.due("behind forget()", b.x.found(0, 0, 1), 1);
    }

    private static void forgets() {
        b.says(39, "They are forgotten: how many there were.");
        b.anew(2, "21ab;21ab");
        b.due("none", b.x.forget(), 0);
        for (int i = 0; i < 12; i++) {
            b.x.found(0, 1, 1);
        }
        b.due("12", b.x.forget(), 12);
        b.due("findings", b.x.count(8), 0);
        b.due("all fit", b.x.fits(), 4, 0, 0);
        b.due("none again", b.x.forget(), 0);
    }

    private static void fitting() {
        b.says(40, "HELD rotas that fit all findings: how many; the ROW: the first (the least row; nothing without).");
        b.anew(2, "21ab;21ab;11a");
        b.due("without findings", b.x.fits(), 6, 0, 0);
        b.x.found(0, 0, 0);
        b.due("not 0", b.x.fits(), 4, 1, 0);
        b.x.found(0, 1, 0);
        b.due("not 1", b.x.fits(), 2, 2, 0);
        b.x.found(1, 1, 1);
        b.due("1 behind", b.x.fits(), 1, 2, 1);
        b.x.found(0, 2, 0);
        b.due("nobody is left", b.x.fits(), 0);
        b.dueRow("nobody is left");
        b.x.forget();
        b.x.found(1, 2, 1);
        b.due("one that can't", b.x.fits(), 0);
        b.dueRow("one that can't");
        b.x.forget();
        b.x.found(0, 1, 1);
        b.x.found(0, 0, 1);
        b.due("two in one HOUR", b.x.fits(), 0);
        b.x.forget();
        b.x.found(0, 0, 1);
        b.x.ill(0);
        b.due("an ILL one", b.x.fits(), 0);
        b.x = Bench.unheld();
        b.due("none is HELD", b.x.fits(), 0);
        b.dueRow("none is HELD");
    }

    private static void sureOnes() {
        b.says(41, "How many of these have a RIDER in an HOUR (of a NIGHT): how many; the ROW: the fraction of all.");
        b.anew(2, "21ab;21ab;11a");
        b.due("sure(0, 0)", b.x.sure(0, 0), 2, 1, 3);
        b.due("sure(1, 0)", b.x.sure(1, 0), 3, 1, 2);
        b.due("sure(1, 2)", b.x.sure(1, 2), 0, 0, 1);
        b.x.found(0, 2, 1);
        b.due("sure(0, 2)", b.x.sure(0, 2), 2, 1, 1);
        b.says(41, "-2: none fits; NONE: none such.");
        b.x.found(0, 2, 0);
        b.due("none fits", b.x.sure(0, 2), -2, 1, 1);
        b.due("none such comes first", b.x.sure(0, 3), -1, 1, 1);
        b.due("none such comes first", b.x.sure(2, 0), -1, 1, 1);
        b.refused("none is HELD", Bench::unheld, x -> x.sure(0, 0), -2);
        int[][] others = {{-1, 0}, {4, 0}, {7, 0}, {8, 0}, {0, -1}, {0, 4}, {Bench.MIN, 0}, {Bench.MAX, 0},
            {0, Bench.MIN}, {0, Bench.MAX}};
        for (int[] o : others) {
            b.refused("sure(" + o[0] + ", " + o[1] + ")", Bench::rich, x -> x.sure(o[0], o[1]), -1);
        }
        b.x = Bench.rich();
        b.due("the last HOUR", b.x.sure(3, 3) >= 0, true);
    }

    private static void asks() {
        b.says(42, "The HOUR (of a NIGHT) to sit up in next, so that, whoever rides, the fewest such rotas are left"
            + " at most; of equal ones the first: it; the ROW: how many at most.");
        b.anew(2, "21ab;21ab");
        b.due("of equal ones the first", b.x.ask(), 0, 2);
        b.riders("11b");
        b.due("the second", b.x.ask(), 1, 2);
        b.anew(1, "11a");
        b.due("one rota alone", b.x.ask(), 0, 1);
        b.anew(8, "41abcdefg;41abcdefgh;11h;11h");
        // Of HOURS 0 .. 6 one of the two has 3, the other 4: 70; by 1 in HOUR 7 they are 35 more.
        b.due("the last HOUR", b.x.ask(), 7, 70);
        b.x.found(7, 1, 0);
        b.due("all HOURS are alike", b.x.ask(), 0, 70);
        b.anew(2, "11a;11a;11a;11a;11a;11b;11b;11b");
        b.due("three are left of 5 times 3", b.x.ask(), 0, 3);
        b.anew(2, "11a;11a;11a;11b;11b;11b;11b;11b");
        b.due("three are left of 3 times 5", b.x.ask(), 1, 3);
        b.x.found(1, 7, 1);
        b.due("the last one in HOUR 1", b.x.ask(), 0, 1);
        b.anew(2, "11a;11a;11a;11a;11a;11a;11a;11b");
        b.due("the last one alone", b.x.ask(), 0, 1);
        b.anew(2, "11a;21ab;11b");
        b.due("one who can both", b.x.ask(), 0, 2);
        b.anew(2, "19;19;11a;11b;11b");
        b.due("one rides HOUR 0 in any case", b.x.ask(), 1, 1);
        b.anew(8, "41abcd;41efgh;11b;11h;11h");
        b.due("three in the last HOUR", b.x.ask(), 7, 2);
        b.x.found(7, 1, 1);
        b.due("two rotas are left", b.x.ask(), 1, 1);
        b.says(42, "-2: none fits.");
        b.anew(8, "41abcdefg;41abcdefgh;11h;11h");
        b.x.found(7, 1, 0);
        b.due("all HOURS are alike", b.x.ask(), 0, 70);
        b.x.found(7, 2, 0);
        b.x.found(7, 3, 0);
        b.due("none fits", b.x.ask(), -2, 70);
        b.refused("none is HELD", Bench::unheld, x -> x.ask(), -2);
        b.refused("ask without RIDERS", RockingHorse::new, x -> x.ask(), -2);
    }

    private static void heldOnes() {
        b.says(43, "Each RIDER not ILL falls ill by p tenths (0 .. 10), each by itself: how likely there is a HELD"
            + " rota yet: 0; the ROW: the fraction.");
        b.x = new RockingHorse();
        b.due("without RIDERS", b.x.held(0), 0, 0, 1);
        b.anew(1, "11a;11a;11b");
        b.due("held(0)", b.x.held(0), 0, 1, 1);
        b.due("held(1)", b.x.held(1), 0, 99, 100);
        b.due("held(9)", b.x.held(9), 0, 19, 100);
        b.due("held(10)", b.x.held(10), 0, 0, 1);
        b.x.ill(1);
        b.due("one is ILL", b.x.held(1), 0, 9, 10);
        b.x.ill(0);
        b.due("both are ILL", b.x.held(0), 0, 0, 1);
        b.x.ill(2);
        b.due("all are ILL", b.x.held(0), 0, 0, 1);
        b.x = Bench.unheld();
        b.due("none is HELD", b.x.held(0), 0, 0, 1);
        b.anew(8, "11a;11b;11c;11d;11e;11f;11g;11h");
        b.due("8 RIDERS, 9 tenths", b.x.held(9), 0, 1, 100000000);
        b.due("8 RIDERS, 1 tenth", b.x.held(1), 0, 43046721, 100000000);
        b.due("8 RIDERS, 0 tenths", b.x.held(0), 0, 1, 1);
        b.says(43, "NONE: another p.");
        for (int p : new int[] {-1, 11, Bench.MIN, Bench.MAX}) {
            b.refused("held(" + p + ")", Bench::rich, x -> x.held(p), -1);
        }
    }

    private static void keystones() {
        b.says(44, "The RIDER not ILL without whom (ILL besides) a HELD rota is least likely by p tenths (as held()):"
            + " it, of equal ones the first; the ROW: the fraction.");
        b.anew(1, "11;11a;11a");
        b.due("of equal ones the first", b.x.keystone(1), 1, 9, 10);
        b.due("keystone(0)", b.x.keystone(0), 0, 1, 1);
        b.due("keystone(10)", b.x.keystone(10), 0, 0, 1);
        b.x.ill(1);
        b.due("not an ILL one", b.x.keystone(1), 2, 0, 1);
        b.x.ill(0);
        b.due("one is left", b.x.keystone(1), 2, 0, 1);
        b.anew(1, "11a;11a;11a");
        b.due("three alike", b.x.keystone(1), 0, 99, 100);
        b.x.ill(0);
        b.due("ILL besides", b.x.keystone(1), 1, 9, 10);
        b.anew(8, "11a;11b;11c;11d;11e;11f;11g;41abcdefgh");
        b.due("the last one", b.x.keystone(0), 7, 0, 1);
        b.says(44, "-2: all are ILL, or there are none; NONE: another p.");
        Supplier<RockingHorse> ill = () -> {
            RockingHorse x = Bench.made(1, "11a;11a");
            x.ill(0);
            x.ill(1);
            x.shared(0, 1);
            return x;
        };
        for (int p : new int[] {0, 5, 10}) {
            b.refused("all are ILL", ill, x -> x.keystone(p), -2);
            b.refused("no RIDERS", RockingHorse::new, x -> x.keystone(p), -2);
        }
        for (int p : new int[] {-1, 11, Bench.MIN, Bench.MAX}) {
            b.refused("keystone(" + p + ")", Bench::rich, x -> x.keystone(p), -1);
            b.refused("keystone(" + p + "), all ILL", ill, x -> x.keystone(p), -1);
        }
    }

    private static void bids() {
        b.says(45, "Two bid x and y (0 .. 9) for an hour worth v (0 .. 9) to the one and w (0 .. 9) to the other: who"
            + " bids more has it, and pays the other's bid; of like ones the first has it. Pairs by which neither"
            + " would have more by another number alone: how many; the ROW: the least, in how many of these the first"
            + " one has it (nothing without).");
        for (int v = 0; v <= 9; v++) {
            for (int w = 0; w <= 9; w++) {
                dueRests(v, w);
            }
        }
        b.says(45, "NONE: others.");
        for (int v : new int[] {-1, 10, Bench.MIN, Bench.MAX}) {
            b.refused("rests(" + v + ", 0)", Bench::rich, x -> x.rests(v, 0), -1);
            b.refused("rests(0, " + v + ")", Bench::rich, x -> x.rests(0, v), -1);
        }
    }

    /**
     * The first one would not have more: it has it, and y is v at most, or has it not, and y is v at least
     * (or it can't bid so much, which 9 allows). The second one likewise, but it must bid more than x.
     */
    private static void dueRests(int v, int w) {
        int pairs = 0;
        int firstHas = 0;
        int least = -1;
        for (int x = 0; x <= 9; x++) {
            for (int y = 0; y <= 9; y++) {
                boolean has = x >= y;
                boolean firstRests = has ? y <= v : y >= v;
                boolean otherRests = has ? x >= w || x == 9 : x <= w;
                if (firstRests && otherRests) {
                    pairs++;
                    firstHas += has ? 1 : 0;
                    least = least < 0 ? x * 10 + y : least;
                }
            }
        }
        b.due("rests(" + v + ", " + w + ")", b.x.rests(v, w), pairs, least / 10, least % 10, firstHas);
    }

    private static void laws() {
        b.says(46, "THE TEXT is another RULE (an empty one: none): HARD of THE ROTA's HOURS of a NIGHT (that are"
            + " somebody's) together by it, less by THE RULE (below 0, too); the ROW: both, by it first.");
        b.anew(2, "11ab;12ab");
        b.due("nobody's", b.law("9"), 0, 0, 0);
        b.rota("01");
        b.x.give(2, 1);
        b.due("of a NIGHT", b.law("w*2"), 3, 6, 3);
        b.due("below 0", b.law("0"), -3, 0, 3);
        b.due("empty", b.law(""), 0, 3, 3);
        b.rule("999");
        b.due("empty, by another rule", b.law(""), -1995, 3, 1998);
        b.due("THE RULE as it was", b.x.hard(0, 0), 999);
        b.x.ill(0);
        b.due("ILL ones, too", b.law("h"), -1997, 1, 1998);
        b.rota("0-");
        b.due("nobody's HOUR", b.law("5"), -994, 5, 999);
        b.says(46, "-10000 - p: the sign at p can't stand there (as rule()).");
        String forty = "1+".repeat(19) + "11";
        b.due("40 signs", b.law(forty), 30 - 999, 30, 999);
        String[] texts = {"x", "w+", "(w", "w)", "1000", forty + "1", forty.substring(0, 39) + "z", "1<2<3", "(((((1"};
        int[] places = {0, 2, 2, 1, 3, 40, 39, 3, 4};
        for (int i = 0; i < texts.length; i++) {
            b.refused("law", Bench::rich, texts[i], x -> x.law(), -10000 - places[i]);
        }
    }

    private static void drawnYears() {
        b.says(47, "n times (1 .. 60): a DRAW of 4 tells: 0, 1: a NIGHT; 2: a DRAW of RIDERS tells one who falls ill,"
            + " or is well again; 3: a DRAW of 8 an HOUR, a DRAW of RIDERS whose it is");
        for (int seed : new int[] {0, 1, 2, 3, 12345, -1, Bench.MIN, Bench.MAX}) {
            for (int n : new int[] {1, 2, 7, 60}) {
                dueYears(2, "22ab;13ab;19abcdefgh", seed, n);
                dueYears(3, "31abc", seed, n);
                dueYears(8, "45abcd;31efg;27h;29abcdefgh;12aceg;23bdf;38abgh;16cdef", seed, n);
            }
        }
        b.says(47, "(2, 3: nothing, no DRAWS more, without RIDERS)");
        for (int seed = 0; seed < 12; seed++) {
            dueYears(3, "", seed, 60);
        }
        b.says(47, "GAPS in these; the ROW: RIDDEN in these, TIRED of all together then.");
        b.anew(2, "21ab;19ab");
        b.rota("0-");
        b.rule("4");
        b.x.nights(3);
        b.due("a NIGHT", b.x.years(0, 1), 1, 1, 16);
        b.due("one falls ill", b.x.years(1, 1), 0, 0, 12);
        b.due("nothing is done", b.x.count(4) + b.x.count(5) + b.x.count(6), 9);
        b.says(47, "NONE: another n.");
        for (int n : new int[] {0, 61, -1, Bench.MIN, Bench.MAX}) {
            b.refused("years(1, " + n + ")", Bench::rich, x -> x.years(1, n), -1);
        }
        b.says(47, "A DRAW of n: R = R times 1103515245 + 12345 (as ints; R is seed at first), (R without sign, by"
            + " 65536) % n.");
        // Seed 0: R is 12345: by 65536 it is 0: a NIGHT of 8 GAPS.
        b.x = new RockingHorse();
        b.due("seed 0", b.x.years(0, 1), 8, 0, 0);
        // Seed 2: R is -2087924461, without sign 2207042835, by 65536 33676: of 4 it is 0.
        b.due("seed 2, R below 0", b.x.years(2, 1), 8, 0, 0);
        // Seed 1: R is 1103527590, by 65536 16838: of 4 it is 2.
        b.due("seed 1", b.x.years(1, 1), 0, 0, 0);
    }

    /** The same by give(), ill(), nights() on a like horse. */
    private static void dueYears(int hours, String crew, int seed, int n) {
        RockingHorse other = Bench.made(hours, crew);
        int riders = other.count(2);
        int r = seed;
        for (int i = 0; i < n; i++) {
            r = r * 1103515245 + 12345;
            int kind = (r >>> 16) % 4;
            if (kind < 2) {
                other.nights(1);
            } else if (riders > 0) {
                r = r * 1103515245 + 12345;
                int one = r >>> 16;
                if (kind == 2) {
                    other.ill(one % riders);
                } else {
                    r = r * 1103515245 + 12345;
                    other.give(one % 8, (r >>> 16) % riders);
                }
            }
        }
        b.x = Bench.made(hours, crew);
        b.due("years(" + seed + ", " + n + ")", b.x.years(seed, n), other.count(5), other.count(6), other.count(7));
    }

    private static void keeps() {
        b.says(48, "What undo() brings back is kept under a number 0 .. 1: true.");
        b.anew(2, "21ab;22ab");
        b.rota("01");
        b.x.nights(2);
        b.x.ill(1);
        b.due("keep(0)", b.x.keep(0), true);
        b.year("n3i0x01g5-");
        b.due("keep(1)", b.x.keep(1), true);
        b.x.give(0, -1);
        b.due("again(0)", b.x.again(0), true);
        b.dueRota("01------");
        long[] want = {2, 2, 0, 4, 9};
        for (int k = 0; k < 5; k++) {
            b.due("count(" + (3 + k) + ")", b.x.count(3 + k), want[k]);
        }
        b.due("again(1)", b.x.again(1), true);
        b.dueRota("10------");
        b.due("ILL", b.x.count(3), 3);
        b.due("NIGHT", b.x.count(4), 5);
        b.due("keep(0) anew", b.x.keep(0), true);
        b.x.nights(1);
        b.due("again(0)", b.x.again(0), true);
        b.due("NIGHT", b.x.count(4), 5);
        b.says(48, "Refused: others.");
        for (int i : new int[] {-1, 2, Bench.MIN, Bench.MAX}) {
            b.refused("keep(" + i + ")", Bench::rich, x -> x.keep(i) ? 1 : 0, 0);
        }
    }

    private static void againOnes() {
        b.says(49, "It is as it was kept under a number.");
        b.x = Bench.rich();
        b.x.set(0, 3);
        b.rule("5");
        b.due("again(0)", b.x.again(0), true);
        b.dueRota("0213----");
        b.due("NIGHT", b.x.count(4), 2);
        b.due("ILL", b.x.count(3), 0);
        b.due("HOURS of a NIGHT stay", b.x.count(0), 3);
        b.due("BEATS stay", b.x.count(1), 3);
        b.due("findings stay", b.x.count(8), 3);
        b.due("THE RULE stays", b.x.hard(0, 0), 5);
        b.due("as often as it is asked", b.x.again(0), true);
        b.due("the other, too", b.x.again(1), true);
        b.dueRota("0213--20");
        b.says(49, "Refused: nothing kept, RIDERS came since.");
        for (int i : new int[] {-1, 2, Bench.MIN, Bench.MAX}) {
            b.refused("again(" + i + ")", Bench::rich, x -> x.again(i) ? 1 : 0, 0);
        }
        Supplier<RockingHorse> none = () -> {
            RockingHorse x = Bench.made(4, Bench.CREW);
            x.give(0, 1);
            return x;
        };
        Supplier<RockingHorse> one = () -> {
            RockingHorse x = none.get();
            x.keep(1);
            x.give(0, 2);
            return x;
        };
        Supplier<RockingHorse> more = () -> {
            RockingHorse x = Bench.rich();
            Bench.put(x, "11ab");
            x.riders();
            x.give(0, 4);
            Bench.put(x, "w*3");
            return x;
        };
        b.refused("again(0), nothing kept", none, x -> x.again(0) ? 1 : 0, 0);
        b.refused("again(1), nothing kept", none, x -> x.again(1) ? 1 : 0, 0);
        b.refused("again(0), kept under 1", one, x -> x.again(0) ? 1 : 0, 0);
        b.refused("again(0), RIDERS came", more, x -> x.again(0) ? 1 : 0, 0);
        b.refused("again(1), RIDERS came", more, x -> x.again(1) ? 1 : 0, 0);
        b.x = more.get();
        b.x.keep(0);
        b.due("kept since they came", b.x.again(0), true);
        b.due("not kept since", b.x.again(1), false);
        b.x = Bench.rich();
        b.riders("");
        b.due("none came by an empty text", b.x.again(0), true);
        b.riders("11;12;13;14;15");
        b.due("none came by a refused one", b.x.again(1), true);
    }

    private static void counts() {
        b.says(50, "What 0: HOURS of a NIGHT, 1: BEATS, 2: RIDERS, 3: ILL (bits), 4: NIGHT, 5: GAPS, 6: RIDDEN, 7:"
            + " TIRED of all, 8: findings, 9: what can be undone, 10: numbers of the ROW, 11: signs of THE TEXT; 20"
            + " .. 27: whose HOUR 0 .. 7 of THE ROTA is (NONE).");
        b.x = Bench.rich();
        // By NIGHTS: 10 5 16 21, then 23 11 37 49, then, rider 1 being ILL, 40 19 32 86.
        long[] want = {4, 3, 4, 2, 3, 3, 11, 177, 3, 6, 2, 3};
        for (int what = 0; what < want.length; what++) {
            b.due("count(" + what + ")", b.x.count(what), want[what]);
        }
        b.dueRota("-213--20");
        b.due("THE ROTA by count(20)", b.x.count(20), -1);
        b.due("THE ROTA by count(27)", b.x.count(27), 0);
        b.says(50, "-100 for another what.");
        for (int what : new int[] {-1, 12, 13, 19, 28, 29, 100, -100, Bench.MIN, Bench.MAX}) {
            b.refused("count(" + what + ")", Bench::rich, x -> x.count(what), -100);
        }
    }

    private static void rows() {
        b.says(51, "Number i of the ROW.");
        b.anew(8, "11a;11b;11c;11d;11e;11f;11g;11h");
        b.x.easiest();
        for (int i = 0; i < 8; i++) {
            b.due("row(" + i + ")", Bench.rowOf(b.x, i), i);
        }
        b.says(51, "NoSuchElementException: none such.");
        b.due("row(8) of 8", Bench.rowOf(b.x, 8), Bench.THROWN);
        for (int i : new int[] {-1, 2, 8, Bench.MIN, Bench.MAX}) {
            b.refused("row(" + i + ")", Bench::rich, x -> Bench.rowOf(x, i), Bench.THROWN);
        }
        b.refused("row(0) of none", RockingHorse::new, x -> Bench.rowOf(x, 0), Bench.THROWN);
        b.x = Bench.unheld();
        b.x.rotas();
        b.due("row(0) of nothing", Bench.rowOf(b.x, 0), Bench.THROWN);
        for (int i : new int[] {Bench.MIN, Bench.MAX}) {
            b.due("row(" + i + ")", Bench.rowOf(b.x, i), Bench.THROWN);
        }
    }
}
