import java.io.IOException;

/** The boundary cases of nights and how they go (promises 10 to 20), each under its own sentence. */
public final class NightsBoundaryTest {
    private static final Bench b = new Bench();

    public static void main(String[] args) throws IOException {
        rotasRead();
        gives();
        ills();
        nightsPass();
        yearsRead();
        yearsDone();
        undoKept();
        undoDone();
        undoForgets();
        gapsAhead();
        firstGap();
        laterOn();
        vigils();
        trades();
        b.end(10, 20);
    }

    private static void rotasRead() {
        b.says(10, "for each HOUR of a NIGHT a digit (a RIDER that is there) or - (nobody; HOURS behind these:"
            + " nobody): how many are somebody's.");
        b.anew(4, Bench.CREW);
        b.x.give(3, 1);
        b.x.give(4, 1);
        b.x.give(7, 2);
        b.due("0-3-", b.rota("0-3-"), 2);
        b.dueRota("0-3-----");
        b.due("can't and ILL ones may stand", b.rota("2222"), 4);
        b.dueRota("2222----");
        b.due("nobody's", b.rota("----"), 0);
        b.dueRota("--------");
        b.x.set(0, 1);
        b.due("one HOUR", b.rota("3"), 1);
        b.dueRota("3-------");
        b.anew(8, "11;11;11;11;11;11;11;11");
        b.due("8 HOURS, 8 RIDERS", b.rota("76543210"), 8);
        b.dueRota("76543210");
        b.says(10, "-1 - p: the sign at p can't stand there (its end, if it ends too early; one too many: at it).");
        String[] texts = {"", "0", "012", "----0", "01230", "0123x", "01234567", "x", "4---", "04", "0-4-", "0124",
            "012x", "01 3", "9---", "/---", ":---", "a---", "x1234567", "012x5"};
        int[] places = {0, 1, 3, 4, 4, 4, 4, 0, 0, 1, 2, 3, 3, 2, 0, 0, 0, 0, 0, 3};
        for (int i = 0; i < texts.length; i++) {
            b.refused("rota", Bench::rich, texts[i], x -> x.rota(), -1 - places[i]);
        }
        b.due("8 is no RIDER", b.rota("8-------"), -1);
        b.due("9 is no RIDER", b.rota("-------9"), -8);
        b.due("9 signs", b.rota("---------"), -9);
        b.due("80 signs", b.rota("-".repeat(80)), -9);
        b.x.set(0, 1);
        b.due("two of one HOUR", b.rota("00"), -2);
        for (char sign = 0; sign < 256; sign++) {
            boolean can = sign == '-' || sign >= '0' && sign <= '3';
            b.anew(2, Bench.CREW);
            b.due("sign " + (int) sign, b.rota("0" + sign), can ? sign == '-' ? 1 : 2 : -2);
        }
    }

    private static void gives() {
        b.says(11, "An HOUR (0 .. 7) of THE ROTA is a RIDER's, or nobody's (-1): whose it was (-1: nobody's).");
        b.anew(2, Bench.CREW);
        b.due("HOUR 0 to 0", b.x.give(0, 0), -1);
        b.due("HOUR 0 to 3", b.x.give(0, 3), 0);
        b.due("HOUR 0 to nobody", b.x.give(0, -1), 3);
        b.due("HOUR 0 to nobody again", b.x.give(0, -1), -1);
        b.due("HOUR 7 to 3", b.x.give(7, 3), -1);
        b.dueRota("-------3");
        b.says(11, "-2: none such.");
        int[][] others = {{-1, 0}, {8, 0}, {0, 4}, {0, -2}, {8, 4}, {Bench.MIN, 0}, {Bench.MAX, 0}, {0, Bench.MIN},
            {0, Bench.MAX}, {-1, -1}, {8, -1}};
        for (int[] other : others) {
            b.refused("give(" + other[0] + ", " + other[1] + ")", Bench::rich, x -> x.give(other[0], other[1]), -2);
        }
    }

    private static void ills() {
        b.says(12, "A RIDER falls ill, or is well again: how many are ILL then.");
        b.anew(2, "11;11;11;11;11;11;11;11");
        for (int r = 0; r < 8; r++) {
            b.due("ill(" + r + ")", b.x.ill(r), r + 1);
            b.due("ILL", b.x.count(3), (2 << r) - 1);
        }
        b.due("ill(0) again", b.x.ill(0), 7);
        b.due("ill(7) again", b.x.ill(7), 6);
        b.due("ILL", b.x.count(3), 126);
        b.says(12, "NONE: none such.");
        for (int rider : new int[] {-1, 4, 8, 32, Bench.MIN, Bench.MAX}) {
            b.refused("ill(" + rider + ")", Bench::rich, x -> x.ill(rider), -1);
        }
    }

    private static void nightsPass() {
        b.says(13, "n NIGHTS (0 .. 30) by THE ROTA: how many GAPS in these; the ROW: RIDDEN in these, TIRED of all"
            + " together then.");
        b.anew(2, "11ab;11ab");
        b.rule("1");
        b.rota("0-");
        b.x.sheet(2, 2, 10, 10);
        b.due("nights(0)", b.x.nights(0), 0, 0, 30);
        b.due("nights(1)", b.x.nights(1), 1, 1, 11 + 15);
        b.due("in these alone", b.x.nights(2), 2, 2, 13 + 5);
        b.due("nights(30)", b.x.nights(30), 30, 30, 43);
        b.due("GAPS", b.x.count(5), 33);
        b.due("RIDDEN", b.x.count(6), 33);
        b.due("NIGHT", b.x.count(4), 33);
        b.due("nights(0) then", b.x.nights(0), 0, 0, 43);
        b.says(13, "Refused: another n.");
        for (int n : new int[] {-1, 31, Bench.MIN, Bench.MAX}) {
            b.refused("nights(" + n + ")", Bench::rich, x -> x.nights(n), -1);
        }
    }

    private static void dueYearFault(String text, int place) {
        b.refused("year", Bench::rich, text, x -> x.year(), -1 - place);
    }

    private static void yearsRead() {
        b.says(14, "THE TEXT tells A YEAR (an empty one: nothing)");
        b.anew(2, Bench.CREW);
        b.x.nights(2);
        b.due("empty", b.year(""), 0, 0, 4);
        b.due("what can be undone", b.x.count(9), 1);
        b.due("NIGHT", b.x.count(4), 2);
        b.says(14, "-1 - p: the sign at p can't stand there (as riders(); 60 signs); nothing is done then.");
        String[] texts = {"q", "n", "i", "g", "x", "nn", "n-", "nx", "n/", "n:", "i-", "i;", "g-", "gg", "g0", "g0x",
            "g0/", "g0:", "x-", "x0", "x0-", "x-0", "n1q", "n1 n1", "n1;n1", "n12", "i0n", "i0n1g", "i0n1g0",
            "i0n1g0-x0", "N1", "0", "-", "n1n1n1n", "g--"};
        int[] places = {0, 1, 1, 1, 1, 1, 1, 1, 1, 1, 1, 1, 1, 1, 2, 2, 2, 2, 1, 2, 2, 1, 2, 2, 2, 2, 3, 5, 6, 9, 0,
            0, 0, 7, 1};
        for (int i = 0; i < texts.length; i++) {
            dueYearFault(texts[i], places[i]);
        }
        String sixty = "n0".repeat(29) + "n1";
        b.due("60 signs", b.year(sixty), 30, 0, 6);
        dueYearFault(sixty + "n", 60);
        dueYearFault(sixty + "n1", 60);
        dueYearFault(sixty + "z", 60);
        dueYearFault("g00" + "n1".repeat(29), 60);
        dueYearFault("g00" + "n1".repeat(28) + "n", 60);
        dueYearFault("n1".repeat(28) + "x01g", 60);
        dueYearFault("n1".repeat(29) + "g0", 60);
        dueYearFault("n1".repeat(29) + "g00", 60);
        dueYearFault("n1".repeat(29) + "n", 59);
        dueYearFault("n1".repeat(29) + "nz1", 59);
        dueYearFault("n1".repeat(29) + "zz1", 58);
        dueYearFault("n1".repeat(40), 60);
        b.due("60 signs of threes", b.year("g00g10".repeat(10)), 20, 0, 6);
        b.due("59 signs", b.year("g00" + "n0".repeat(28)), 29, 0, 6);
        for (char sign = 0; sign < 256; sign++) {
            boolean digit = sign >= '0' && sign <= '9';
            b.x = new RockingHorse();
            b.due("sign " + (int) sign, b.year("" + sign), "nigx".indexOf(sign) >= 0 ? -2 : -1);
            b.due("sign " + (int) sign + " behind n", b.year("n" + sign), digit ? 1 : -2);
            b.due("sign " + (int) sign + " behind i", b.year("i" + sign), digit ? 0 : -2);
            b.due("sign " + (int) sign + " behind g", b.year("g" + sign), digit ? -3 : -2);
            b.due("sign " + (int) sign + " behind g0", b.year("g0" + sign), digit ? 0 : sign == '-' ? 1 : -3);
            b.due("sign " + (int) sign + " behind x", b.year("x" + sign), digit ? -3 : -2);
            b.due("sign " + (int) sign + " behind x1", b.year("x1" + sign), digit ? 0 : -3);
        }
    }

    private static void yearsDone() {
        b.says(14, "ACTS one behind another, without signs between: n and a digit (nights()), i and a digit (ill()),"
            + " g, a digit and a digit or - (give(): HOUR, RIDER or nobody)");
        for (int digit = 0; digit <= 9; digit++) {
            b.anew(2, Bench.CREW);
            b.due("n" + digit, b.year("n" + digit), 1, 0, 2 * digit);
            b.due("NIGHT", b.x.count(4), digit);
            b.due("i" + digit, b.year("i" + digit), digit < 4 ? 1 : 0, digit < 4 ? 0 : 1, 2 * digit);
            b.due("ILL", b.x.count(3), digit < 4 ? 1 << digit : 0);
            b.due("g" + digit + "3", b.year("g" + digit + "3"), digit < 8 ? 1 : 0, digit < 8 ? 0 : 1, 2 * digit);
            b.due("HOURS of 3", b.x.rider(3, 5), digit < 8 ? 1 << digit : 0);
            b.due("g" + digit + "-", b.year("g" + digit + "-"), digit < 8 ? 1 : 0, digit < 8 ? 0 : 1, 2 * digit);
            b.dueRota("--------");
            b.due("g0" + digit, b.year("g0" + digit), digit < 4 ? 1 : 0, digit < 4 ? 0 : 1, 2 * digit);
            b.due("whose HOUR 0 is", b.x.count(20), digit < 4 ? digit : -1);
        }
        b.says(14, "x and two digits (two RIDERS exchange all their HOURS of THE ROTA; like ones, none such: it can't"
            + " be)");
        b.anew(2, Bench.CREW);
        b.rota("01");
        b.x.give(2, 3);
        b.x.give(7, 0);
        b.due("x01", b.year("x01"), 1, 0, 0);
        b.dueRota("103----1");
        b.due("with one who has none", b.year("x21"), 1, 0, 0);
        b.dueRota("203----2");
        for (String cannot : new String[] {"x00", "x33", "x04", "x40", "x99", "x44", "x80", "x08"}) {
            b.due(cannot, b.year(cannot), 0, 1, 0);
            b.dueRota("203----2");
        }
        b.says(14, "they are done one by one, till one can't be: how many were done; the ROW: 1 if one could not be,"
            + " else 0; GAPS then.");
        b.anew(2, Bench.CREW);
        b.due("the first can't be", b.year("i4n1"), 0, 1, 0);
        b.due("none to undo", b.x.count(9), 0);
        b.due("the second can't be", b.year("n1g80n1"), 1, 1, 2);
        b.due("NIGHT", b.x.count(4), 1);
        b.due("the last can't be", b.year("i0g00g90"), 2, 1, 2);
        b.due("ILL", b.x.count(3), 1);
        b.due("no such RIDER", b.year("n1g04"), 1, 1, 4);
        b.due("HOUR 7, RIDER 3", b.year("g73"), 1, 0, 4);
        b.due("HOUR 7, nobody", b.year("g7-"), 1, 0, 4);
        b.due("HOUR 8, nobody", b.year("g8-n1"), 0, 1, 4);
        b.due("n0", b.year("n0"), 1, 0, 4);
        b.due("n9", b.year("n9"), 1, 0, 22);
        b.due("NIGHT", b.x.count(4), 11);
        b.due("i twice", b.year("i3i3i3"), 3, 0, 22);
        b.due("ILL", b.x.count(3), 9);
        b.due("each by those ahead of it", b.year("i0i3g00n1g10x01n1"), 7, 0, 24);
    }

    private static void undoKept() {
        b.says(15, "(of 12 that are kept, the latest ones;");
        b.anew(8, "11;11;11;11;11;11;11;11");
        for (int i = 0; i < 12; i++) {
            b.x.give(0, i % 8);
            b.due("what can be undone", b.x.count(9), i + 1);
        }
        b.x.give(0, 5);
        b.due("12 of 13", b.x.count(9), 12);
        for (int i = 11; i >= 0; i--) {
            b.due("undo", b.x.undo(), i);
            b.due("HOUR 0", b.x.count(20), i % 8);
        }
        b.refused("none is left", () -> Bench.made(4, Bench.CREW), x -> x.undo(), -1);
        b.due("none is left", b.x.undo(), -1);
        b.due("HOUR 0", b.x.count(20), 0);
        for (int i = 0; i < 30; i++) {
            b.x.give(1, i % 8);
        }
        b.due("12 of 30", b.x.count(9), 12);
        b.x.undo();
        b.due("HOUR 1", b.x.count(21), 28 % 8);
        b.x.give(1, 7);
        b.due("12 again", b.x.count(9), 12);
        b.due("undo", b.x.undo(), 11);
        b.due("HOUR 1", b.x.count(21), 28 % 8);
    }

    private static void undoDone() {
        b.says(15, "such as were done; nights() of 1 and more, year() of which one ACT was done, as one)");
        b.anew(2, "41ab;41ab");
        b.rota("0");
        b.x.give(8, 0);
        b.x.ill(2);
        b.x.nights(31);
        b.x.nights(0);
        b.year("");
        b.year("x00n1");
        b.year("q");
        b.due("none was done", b.x.count(9), 0);
        b.due("none was done", b.x.undo(), -1);
        b.x.ill(0);
        b.x.ill(1);
        b.x.takes();
        b.due("takes() without a HELD rota", b.x.count(9), 2);
        b.x.ill(0);
        b.x.ill(1);
        b.due("nights(1)", b.x.nights(1) + 10 * b.x.count(9), 52);
        b.x.nights(30);
        b.due("nights(30) as one", b.x.count(9), 6);
        b.year("n1i0x01g00");
        b.due("year() as one", b.x.count(9), 7);
        b.year("n1x00");
        b.due("year() of which one was done", b.x.count(9), 8);
        b.x.takes();
        b.due("takes() without one that is there", b.x.count(9), 9);
        b.x.takes();
        b.due("takes() that changes nothing", b.x.count(9), 10);
        b.x.give(0, b.x.count(20));
        b.due("give() that changes nothing", b.x.count(9), 11);
        b.says(15, "is undone (THE ROTA, TIRED, ILL, NIGHT, GAPS, RIDDEN are as ahead of it): how many are left that"
            + " can be.");
        b.anew(2, Bench.CREW);
        b.x.set(1, 4);
        b.rota("02");
        b.x.nights(1);
        b.x.sheet(2, 4, 30, 1);
        b.x.found(0, 0, 1);
        b.year("n2i1x03g01");
        b.x.sheet(2, 4, 80, 1);
        b.rule("5");
        b.x.set(0, 3);
        b.x.set(1, 9);
        b.x.found(0, 0, 1);
        b.x.thin();
        Bench.put(b.x, "abc");
        b.due("undo year()", b.x.undo(), 2);
        b.dueRota("02------");
        b.dueTired(30, 31, 32, 33);
        long[] want = {3, 9, 4, 0, 1, 0, 2, 126, 2, 2, 1, 3};
        for (int what = 0; what < want.length; what++) {
            b.due("count(" + what + ")", b.x.count(what), want[what]);
        }
        b.due("THE RULE stays", b.x.hard(0, 0), 5);
        b.due("undo nights()", b.x.undo(), 1);
        b.dueTired(0, 0, 0, 0);
        b.due("NIGHT and RIDDEN", b.x.count(4) + b.x.count(6), 0);
        b.due("undo rota()", b.x.undo(), 0);
        b.dueRota("--------");
        b.x = Bench.rich();
        b.rota("3333");
        b.due("undo rota() behind others", b.x.undo(), 6);
        b.dueRota("-213--20");
        b.dueTired(40, 32, 19, 86);
        b.due("NIGHT", b.x.count(4), 3);
        b.due("GAPS", b.x.count(5), 3);
        b.due("RIDDEN", b.x.count(6), 11);
        b.says(15, "Refused: none.");
        b.refused("undo() of none", () -> Bench.made(4, Bench.CREW), x -> x.undo(), -1);
        for (int i = 5; i >= -1; i--) {
            b.due("undo() till none is left", b.x.undo(), i);
        }
        b.dueRota("--------");
    }

    private static void undoForgets() {
        b.says(15, "(riders() and again() forget them, if they are not refused; an empty riders() does not.)");
        b.x = Bench.rich();
        long there = b.x.count(9);
        b.due("there are some", there, 6);
        b.riders("");
        b.due("an empty riders()", b.x.count(9), there);
        b.riders("11;");
        b.due("a refused riders()", b.x.count(9), there);
        b.x.again(2);
        b.x.again(-1);
        b.due("a refused again()", b.x.count(9), there);
        b.x.keep(0);
        b.due("keep()", b.x.count(9), there);
        b.x.again(1);
        b.due("again()", b.x.count(9), 0);
        b.due("undo()", b.x.undo(), -1);
        b.x.give(0, 0);
        b.riders("11");
        b.due("riders()", b.x.count(9), 0);
        b.due("undo()", b.x.undo(), -1);
        b.due("HOUR 0", b.x.count(20), 0);
        b.x.give(0, 1);
        b.x.again(0);
        b.due("an again() refused since", b.x.count(9), 1);
        b.due("undo()", b.x.undo(), 0);
    }

    private static void gapsAhead() {
        b.says(16, "GAPS in the next NIGHT (bits of HOURS); the ROW: how many, HOURS that are ridden (bits).");
        b.x = new RockingHorse();
        b.due("without RIDERS", b.x.gaps(), 255, 8, 0);
        b.anew(8, "41abcd;41efgh");
        b.rota("00001111");
        b.due("none", b.x.gaps(), 0, 0, 255);
        b.x.give(7, -1);
        b.x.give(0, -1);
        b.due("at both ends", b.x.gaps(), 129, 2, 126);
        b.x.set(0, 7);
        b.due("HOURS of the NIGHT alone", b.x.gaps(), 1, 1, 126);
        b.due("none was ridden", b.x.count(6) + b.x.count(5) + b.x.count(4), 0);
    }

    private static void firstGap() {
        b.says(17, "In which of the next n NIGHTS (1 .. 60; 0 the next one) there is first a GAP, nothing being done:"
            + " it; the ROW: its first HOUR.");
        b.anew(3, "21abc;11abc");
        b.rota("001");
        b.x.give(1, -1);
        b.due("first(1)", b.x.first(1), 0, 1);
        b.x.give(0, -1);
        b.due("first(60)", b.x.first(60), 0, 0);
        b.rota("00-");
        b.due("the last HOUR", b.x.first(2), 0, 2);
        b.says(17, "-2: in none; NONE: another n.");
        b.rota("001");
        b.due("first(1)", b.x.first(1), -2, 2);
        b.due("first(60)", b.x.first(60), -2, 2);
        for (int n : new int[] {0, 61, -1, Bench.MIN, Bench.MAX}) {
            b.refused("first(" + n + ")", Bench::rich, x -> x.first(n), -1);
        }
    }

    private static void laterOn() {
        b.says(18, "GAPS in the next n NIGHTS (0 .. 60), nothing being done: how many; the ROW: TIRED of all together"
            + " then, the most TIRED of one (0 without).");
        b.x = new RockingHorse();
        b.due("without RIDERS", b.x.later(60), 480, 0, 0);
        b.due("without RIDERS", b.x.later(0), 0, 0, 0);
        b.anew(2, "11ab;11ab;11");
        b.rule("1");
        b.rota("0-");
        b.x.sheet(2, 3, 10, 20);
        b.due("later(0)", b.x.later(0), 0, 90, 50);
        b.due("later(1)", b.x.later(1), 1, 11 + 25 + 45, 45);
        b.due("later(60)", b.x.later(60), 60, 70, 70);
        b.due("nothing is done", b.x.count(4) + b.x.count(5) + b.x.count(6), 0);
        b.x.nights(2);
        b.due("in these alone", b.x.later(3), 3, 15 + 5 + 25, 25);
        b.anew(8, "11a;12b;13c;14d;15e;16f;17g;18h");
        b.rota("0123456-");
        b.x.sheet(2, 8, 1, 1);
        b.rule("w");
        b.due("8 RIDERS", b.x.later(1), 1, 2 + 4 + 6 + 8 + 10 + 12 + 14 + 3, 14);
        b.says(18, "NONE: another n.");
        for (int n : new int[] {-1, 61, Bench.MIN, Bench.MAX}) {
            b.refused("later(" + n + ")", Bench::rich, x -> x.later(n), -1);
        }
    }

    private static void vigils() {
        b.says(19, "Of the next n NIGHTS (0 .. 60), nothing being done, the most one behind the other without a GAP:"
            + " how many; the ROW: the first of these (0 the next one; -1, if there are none).");
        b.anew(1, "11a");
        b.due("nobody's", b.x.vigil(60), 0, -1);
        b.due("nobody's, vigil(0)", b.x.vigil(0), 0, -1);
        b.rota("0");
        b.due("vigil(0)", b.x.vigil(0), 0, -1);
        b.due("vigil(1)", b.x.vigil(1), 1, 0);
        b.due("vigil(60)", b.x.vigil(60), 60, 0);
        b.says(19, "NONE: another n.");
        for (int n : new int[] {-1, 61, Bench.MIN, Bench.MAX}) {
            b.refused("vigil(" + n + ")", Bench::rich, x -> x.vigil(n), -1);
        }
    }

    private static void trades() {
        b.says(20, "The two HOURS of a NIGHT (the lesser first) whose RIDERS (or nobody) are to be exchanged in THE"
            + " ROTA, so that there are the fewest GAPS in the next NIGHT: how many then; the ROW: the two: of like"
            + " ones the least row; how many as it is.");
        b.anew(2, "11a;11b");
        b.rota("10");
        b.due("two HOURS", b.x.trade(), 0, 0, 1, 2);
        b.rota("01");
        b.due("it is worse by any", b.x.trade(), 2, 0, 1, 0);
        b.rota("-0");
        b.due("with nobody", b.x.trade(), 1, 0, 1, 2);
        b.anew(8, "41abcd;21ef;11g;11h");
        b.rota("00001132");
        b.due("the last two HOURS", b.x.trade(), 0, 6, 7, 2);
        b.anew(3, "11abc;11abc;11abc");
        b.rota("012");
        b.due("of like ones the least row", b.x.trade(), 0, 0, 1, 0);
        b.x.give(7, 1);
        b.rota("01-");
        b.x.give(3, 2);
        b.due("HOURS of the NIGHT alone", b.x.trade(), 1, 0, 1, 1);
        b.dueRota("01-2----");
        b.x = new RockingHorse();
        b.due("8 GAPS of 8", b.x.trade(), 8, 0, 1, 8);
        b.anew(3, "11abc;11abc;11abc");
        b.due("3 GAPS of 3", b.x.trade(), 3, 0, 1, 3);
        b.says(20, "-2: a NIGHT has one HOUR.");
        b.x.set(0, 1);
        b.due("one HOUR", b.x.trade(), -2, 0, 1, 3);
        b.x = new RockingHorse();
        b.x.set(0, 1);
        b.due("one HOUR, no RIDERS", b.x.trade(), -2);
        b.dueRow("one HOUR, no RIDERS");
    }
}
