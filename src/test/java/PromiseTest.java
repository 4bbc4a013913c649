import java.util.NoSuchElementException;

/** Each promise of the document by written answers. */
public final class PromiseTest {
    private static int wrong = 0;
    private static int asked = 0;
    private static RockingHorse x = new RockingHorse();

    private static void due(int promise, String what, long got, long want) {
        asked++;
        if (got != want) {
            wrong++;
            System.out.println("promise " + promise + ": " + what + " answered " + got + ", due is " + want);
        }
    }

    private static void due(int promise, String what, boolean got, boolean want) {
        due(promise, what, got ? 1 : 0, want ? 1 : 0);
    }

    private static void dueRow(int promise, String what, long... want) {
        due(promise, what + ": numbers of the ROW", x.count(10), want.length);
        for (int i = 0; i < want.length && i < x.count(10); i++) {
            due(promise, what + ": row(" + i + ")", x.row(i), want[i]);
        }
    }

    private static void text(String t) {
        x.end(0);
        for (int p = 0; p < t.length(); p += 4) {
            int v = 0;
            for (int k = 0; k < 4; k++) {
                v = v << 8 | (p + k < t.length() ? t.charAt(p + k) : 0);
            }
            x.sign(v);
        }
        x.end(t.length());
    }

    private static int riders(String t) {
        text(t);
        return x.riders();
    }

    private static int rule(String t) {
        text(t);
        return x.rule();
    }

    private static int rota(String t) {
        text(t);
        return x.rota();
    }

    private static int year(String t) {
        text(t);
        return x.year();
    }

    private static int law(String t) {
        text(t);
        return x.law();
    }

    private static void anew(int hours, String crew) {
        x = new RockingHorse();
        x.set(0, hours);
        riders(crew);
    }

    private static boolean riderThrows(int rider, int what) {
        try {
            x.rider(rider, what);
            return false;
        } catch (NoSuchElementException e) {
            return true;
        }
    }

    private static boolean rowThrows(int i) {
        try {
            x.row(i);
            return false;
        } catch (NoSuchElementException e) {
            return true;
        }
    }

    public static void main(String[] args) {
        newObject();
        signs();
        riderTexts();
        ruleTexts();
        ruleValues();
        oneRider();
        settings();
        sheets();
        rotaTexts();
        gives();
        nightsPass();
        nightGaps();
        yearTexts();
        undone();
        undoneByWhat();
        ahead();
        trades();
        easiestOnes();
        fewestAndBare();
        rotasAndMended();
        missedAndPaid();
        fairestAndAway();
        whoCan();
        handOns();
        strides();
        findings();
        chances();
        bids();
        laws();
        drawnYears();
        keptOnes();
        countsAndRows();
        System.out.println(asked + " answers, " + wrong + " not as due");
        if (wrong != 0) {
            System.exit(1);
        }
    }

    private static void newObject() {
        x = new RockingHorse();
        int[] counts = {8, 4, 0, 0, 0, 0, 0, 0, 0, 0, 0, 0};
        for (int what = 0; what < counts.length; what++) {
            due(1, "count(" + what + ")", x.count(what), counts[what]);
        }
        for (int h = 0; h < 8; h++) {
            due(1, "count(" + (20 + h) + ")", x.count(20 + h), -1);
        }
        due(1, "rider(0, 0) throws", riderThrows(0, 0), true);
        due(1, "row(0) throws", rowThrows(0), true);
    }

    private static void signs() {
        x = new RockingHorse();
        for (int i = 1; i <= 20; i++) {
            due(2, "sign", x.sign(0x31316162), 4 * i);
        }
        due(2, "sign at 80", x.sign(0), -1);
        due(2, "signs then", x.count(11), 80);
        due(3, "end(77)", x.end(77), true);
        due(2, "sign at 77", x.sign(0), -1);
        due(3, "end(76)", x.end(76), true);
        due(2, "sign at 76", x.sign(-1), 80);
        due(3, "end(81)", x.end(81), false);
        due(3, "end(-1)", x.end(-1), false);
        due(3, "end(MIN)", x.end(Integer.MIN_VALUE), false);
        due(3, "signs then", x.count(11), 80);
        due(3, "end(80)", x.end(80), true);
        due(3, "end(0)", x.end(0), true);
        due(3, "end(1) of none", x.end(1), false);
        x.sign(0x32356162);
        due(2, "highest byte first", x.riders(), 1);
        due(2, "its WIDTH", x.rider(0, 1), 5);
        x.sign(0x3235FF62);
        due(2, "signs have no minus", x.riders(), -3);
    }

    private static void riderTexts() {
        x = new RockingHorse();
        due(4, "empty", riders(""), 0);
        due(4, "none came", x.count(2), 0);
        String[] texts = {"x", "0", "5", "1", "10", "1x", "11;", "11i", "11aa", "11ba", "11a;", "11 ", ";",
            "11;;", "11a1", "11ab;2", "11ab;23;0"};
        int[] places = {0, 0, 0, 1, 1, 1, 3, 2, 3, 3, 4, 2, 0, 3, 3, 6, 8};
        for (int i = 0; i < texts.length; i++) {
            due(4, texts[i], riders(texts[i]), -1 - places[i]);
            due(4, texts[i] + " empties the text", x.count(11), 0);
        }
        due(4, "nothing came", x.count(2), 0);
        due(4, "11;22;33", riders("11;22;33"), 3);
        due(4, "they are there", x.count(2), 3);
        due(4, "six more", riders("11;11;11;11;11;11"), -16);
        due(4, "nothing came", x.count(2), 3);
        due(4, "five more", riders("11;11;11;11;49abcdefgh"), 5);
        due(4, "they are there", x.count(2), 8);
        due(4, "one more", riders("11"), -1);
        due(4, "x without room", riders("x"), -1);
        due(4, "8th: CAN", x.rider(7, 2), 255);
        String line = "11abcdefgh;";
        String six = line + line + line + line + line + line;
        x = new RockingHorse();
        due(4, "76 signs", riders(six + "11abcdefgh"), 7);
        x = new RockingHorse();
        due(4, "77 signs, ; behind", riders(six + line), -77);
        due(4, "80 signs, wrong behind", riders(six + "11abcdefghxxxx"), -77);
        due(4, "80 signs, wrong at 75", riders(six + "11abcdefgxxxxx"), -76);
        due(4, "77 signs, letters could go on", riders("11;" + six + "11abcdefgh".substring(0, 8)), -77);
        due(4, "none came", x.count(2), 0);
        due(4, "short lines up to 8, then ;", riders("11;11;11;11;11;11;11;11;"), -25);
    }

    private static void ruleTexts() {
        anew(8, "25abcd;49abcdefgh");
        String[] texts = {"z", "w+", "w<h<h", "(w", "(((((w", "1000", "()", ")", "w)", "w w", "+w", "w--", "1w",
            "w1", "(1)2", "12a", "w<h=1", "(w<h)<h)", "*", "-", "w<", "w=(h", "((((w))))+(((((", "w>h+1>2",
            "hh", "(h<1>2)", "~w", "w~h", "w&1", "h=", "(w+)"};
        int[] places = {0, 2, 3, 2, 4, 3, 1, 0, 1, 1, 0, 3, 1, 1, 3, 2, 3, 7, 0, 1, 2, 4, 14, 5, 1, 4, 0, 1, 1,
            2, 3};
        for (int i = 0; i < texts.length; i++) {
            due(5, texts[i], rule(texts[i]), -1 - places[i]);
            due(5, texts[i] + " empties the text", x.count(11), 0);
            due(5, texts[i] + " changes nothing", x.hard(1, 6), 18);
            due(46, texts[i], law(texts[i]), -10000 - places[i]);
        }
        String forty = "1+1+1+1+1+1+1+1+1+1+1+1+1+1+1+1+1+1+1+11";
        due(5, "40 signs", rule(forty), 0);
        due(5, "its value", x.hard(0, 0), 30);
        due(5, "41 signs", rule(forty + "1"), -41);
        due(5, "41 signs, wrong behind", rule(forty + "z"), -41);
        due(5, "44 signs, wrong at 39", rule(forty.substring(0, 39) + "z1111"), -40);
        due(5, "40 signs, too early", rule(forty.substring(0, 39) + "("), -40);
        due(5, "40 signs that end too early", rule(forty.substring(0, 38) + "1+"), -41);
        due(5, "40 signs, a - at their end", rule("-" + forty.substring(0, 38) + "-"), -41);
        due(5, "the value is as it was", x.hard(0, 0), 30);
        due(5, "empty", rule(""), 0);
        due(5, "the rule at first", x.hard(1, 6), 18);
    }

    private static void dueValue(String t, int want) {
        due(5, t, rule(t), 0);
        due(7, t, x.hard(1, 6), want);
    }

    private static void ruleValues() {
        anew(8, "25abcd;39acefh");
        x.sheet(2, 2, 7, 10); // TIRED 7 and 17
        x.nights(9); // nobody rides: TIRED 0; NIGHT 9
        x.sheet(2, 2, 7, 10);
        dueValue("h", 6);
        dueValue("t", 17);
        dueValue("w", 9);
        dueValue("m", 3);
        dueValue("i", 1);
        dueValue("n", 2);
        dueValue("c", 5);
        dueValue("999", 999);
        dueValue("999+1", 999);
        dueValue("007", 7);
        dueValue("3-9", 0);
        dueValue("9-3-2", 4);
        dueValue("2+3*4", 14);
        dueValue("(2+3)*4", 20);
        dueValue("7/2*2", 6);
        dueValue("7*2/4", 3);
        dueValue("100+-7/2", 97);
        dueValue("5/0+8", 8);
        dueValue("--3", 3);
        dueValue("---3+10", 7);
        dueValue("10--3", 13);
        dueValue("-3*-4", 12);
        dueValue("1+2<4", 1);
        dueValue("1+2<3", 0);
        dueValue("4>1+2", 1);
        dueValue("3=1+2", 1);
        dueValue("3=4", 0);
        dueValue("(1<2)+(2>1)+(1=1)", 3);
        dueValue("(1<2)<2", 1);
        dueValue("((((5))))", 5);
        dueValue("(1+(2+(3+(4+5))))", 15);
        dueValue("999*999*999*3", 0);
        dueValue("0-999*999*999*3/999/999/2", 653);
        due(7, "no such rider", x.hard(2, 0), -1);
        due(7, "no such rider", x.hard(-1, 0), -1);
        due(7, "no such hour", x.hard(0, 8), -1);
        due(7, "no such hour", x.hard(0, -1), -1);
        anew(1, "25abcd");
        due(7, "an hour behind the night", x.hard(0, 7), 14);
        due(7, "h > 5 alone", x.hard(0, 5), 5);
    }

    private static void oneRider() {
        anew(2, "25abcd;17ac;32");
        int[][] want = {{2, 5, 15, 0, 0, 0}, {1, 7, 5, 0, 0, 0}, {3, 2, 0, 0, 0, 0}};
        for (int r = 0; r < 3; r++) {
            for (int what = 0; what < 6; what++) {
                due(6, "rider(" + r + ", " + what + ")", x.rider(r, what), want[r][what]);
            }
        }
        x.give(7, 1);
        x.give(1, 1);
        x.ill(1);
        x.sheet(2, 2, 120, 0);
        due(6, "its HOURS, all 8", x.rider(1, 5), 130);
        due(6, "ILL", x.rider(1, 4), 1);
        due(6, "TIRED", x.rider(1, 3), 99);
        due(6, "rider(3, 0) throws", riderThrows(3, 0), true);
        due(6, "rider(-1, 0) throws", riderThrows(-1, 0), true);
        due(6, "rider(0, 6) throws", riderThrows(0, 6), true);
        due(6, "rider(0, -1) throws", riderThrows(0, -1), true);
        due(6, "rider(MAX, 5) throws", riderThrows(Integer.MAX_VALUE, 5), true);
    }

    private static void settings() {
        x = new RockingHorse();
        due(8, "set(0, 1)", x.set(0, 1), 8);
        due(8, "set(0, 8)", x.set(0, 8), 1);
        due(8, "set(1, 0)", x.set(1, 0), 4);
        due(8, "set(1, 9)", x.set(1, 9), 0);
        due(8, "set(0, 0)", x.set(0, 0), -1);
        due(8, "set(0, 9)", x.set(0, 9), -1);
        due(8, "set(1, -1)", x.set(1, -1), -1);
        due(8, "set(1, 10)", x.set(1, 10), -1);
        due(8, "set(2, 1)", x.set(2, 1), -1);
        due(8, "set(-1, 1)", x.set(-1, 1), -1);
        due(8, "HOURS", x.count(0), 8);
        due(8, "BEATS", x.count(1), 9);
    }

    private static void sheets() {
        anew(8, "11;11;11");
        due(9, "ints", x.sheet(2, 3, 5, 9), 5 + 14 + 23);
        due(9, "TIRED of the last", x.rider(2, 3), 23);
        due(9, "n below the riders", x.sheet(2, 1, 50, 1), 50);
        due(9, "those behind have 0", x.rider(1, 3), 0);
        due(9, "n above the riders", x.sheet(2, 8, 1, 1), 6);
        due(9, "put to 0 .. 99", x.sheet(2, 3, -100, 200), 99 + 99);
        due(9, "bytes", x.sheet(0, 3, 260, 128), 4 + 0 + 4);
        due(9, "shorts", x.sheet(1, 3, 65541, 32768), 10);
        due(9, "ints that wrap", x.sheet(2, 2, Integer.MAX_VALUE, 1), 99);
        due(9, "n 0", x.sheet(2, 0, 9, 9), 0);
        x.sheet(2, 3, 5, 9);
        due(9, "n below 0", x.sheet(0, -1, 1, 1), -2);
        due(9, "n MIN", x.sheet(2, Integer.MIN_VALUE, 1, 1), -2);
        due(9, "n 9", x.sheet(1, 9, 1, 1), -1);
        due(9, "n 9 of a missing one", x.sheet(3, 9, 1, 1), -1);
        due(9, "kind 4", x.sheet(4, -1, 1, 1), -1);
        due(9, "kind -1", x.sheet(-1, 1, 1, 1), -1);
        due(9, "nothing changed", x.count(7), 42);
        due(9, "missing", x.sheet(3, -1, 1, 1), -3);
        due(9, "all 0", x.count(7), 0);
        due(9, "can't be undone", x.count(9), 0);
    }

    private static void rotaTexts() {
        anew(4, "25abcd;17ac;32bd;49abcdefgh");
        String[] texts = {"", "x", "4", "012", "01234", "0123-", "01x", "--4-", "9", "/", ":"};
        int[] places = {0, 0, 0, 3, 4, 4, 2, 2, 0, 0, 0};
        for (int i = 0; i < texts.length; i++) {
            due(10, "'" + texts[i] + "'", rota(texts[i]), -1 - places[i]);
        }
        due(10, "nothing to undo", x.count(9), 0);
        x.give(6, 2);
        due(10, "-0-3", rota("-0-3"), 2);
        int[] want = {-1, 0, -1, 3, -1, -1, -1, -1};
        for (int h = 0; h < 8; h++) {
            due(10, "hour " + h, x.count(20 + h), want[h]);
        }
        due(10, "the text is empty", x.count(11), 0);
        due(10, "it can be undone", x.undo(), 1);
        due(10, "hour 6", x.count(26), 2);
        due(10, "----", rota("----"), 0);
    }

    private static void gives() {
        anew(4, "25abcd;17ac;32bd;49abcdefgh");
        due(11, "give(7, 3)", x.give(7, 3), -1);
        due(11, "give(7, -1)", x.give(7, -1), 3);
        due(11, "give(0, 0)", x.give(0, 0), -1);
        due(11, "give(0, 0) again", x.give(0, 0), 0);
        due(11, "hour 8", x.give(8, 0), -2);
        due(11, "hour -1", x.give(-1, 0), -2);
        due(11, "rider 4", x.give(0, 4), -2);
        due(11, "rider -2", x.give(0, -2), -2);
        due(11, "hour 0", x.count(20), 0);
        due(11, "four were done", x.count(9), 4);
        due(12, "ill(3)", x.ill(3), 1);
        due(12, "ill(0)", x.ill(0), 2);
        due(12, "ILL", x.count(3), 9);
        due(12, "ill(3) again", x.ill(3), 1);
        due(12, "ILL", x.count(3), 1);
        due(12, "ill(4)", x.ill(4), -1);
        due(12, "ill(-1)", x.ill(-1), -1);
        due(12, "seven were done", x.count(9), 7);
    }

    private static void nightsPass() {
        anew(4, "25abcd;17ac;32bd;49abcdefgh");
        rota("0202");
        x.sheet(2, 4, 0, 1); // TIRED 0 1 2 3
        due(13, "nights(1)", x.nights(1), 0);
        // rider 0: 5 + 5; rider 2: 2 + (2 + 2) * 2; riders 1 and 3 rest
        dueRow(13, "nights(1)", 4, 20);
        due(13, "TIRED 0", x.rider(0, 3), 10);
        due(13, "TIRED 2", x.rider(2, 3), 10);
        due(13, "TIRED 3, 0 at least", x.rider(3, 3), 0);
        due(13, "NIGHT", x.count(4), 1);
        due(13, "nights(30)", x.nights(30), 0);
        dueRow(13, "nights(30)", 120, 198);
        due(13, "RIDDEN", x.count(6), 124);
        due(13, "NIGHT", x.count(4), 31);
        x.ill(0);
        due(13, "two hours are gaps", x.nights(2), 4);
        dueRow(13, "two nights", 4, 99 + 89);
        due(13, "GAPS", x.count(5), 4);
        due(13, "nights(31)", x.nights(31), -1);
        due(13, "nights(-1)", x.nights(-1), -1);
        due(13, "nights(0)", x.nights(0), 0);
        dueRow(13, "nights(0)", 0, 188);
        due(13, "NIGHT then", x.count(4), 33);
        due(13, "0 nights are none to undo", x.count(9), 5);
    }

    private static void nightGaps() {
        anew(8, "15abcdefgh;29abcdefgh;44bcdefgh");
        due(16, "nobody's", x.gaps(), 255);
        dueRow(16, "nobody's", 8, 0);
        rota("00112222");
        // hour 1: 0 has ridden its most; hour 2: nobody rode ahead; hour 4: 9 and 4 differ by 5
        due(16, "most, widths", x.gaps(), 2 + 16);
        dueRow(16, "most, widths", 2, 255 - 2);
        x.set(1, 5);
        due(16, "BEATS 5", x.gaps(), 2);
        x.set(1, 0);
        x.give(1, -1);
        due(16, "a gap between", x.gaps(), 2 + 16);
        x.ill(1);
        due(16, "ill", x.gaps(), 2 + 4 + 8);
        dueRow(16, "ill", 3, 1 + 16 + 32 + 64 + 128);
        x.ill(1);
        rota("20------");
        due(16, "2 can't hour 0", x.gaps(), 255 - 2);
        x.set(0, 2);
        due(16, "two hours a night", x.gaps(), 1);
        due(16, "no night passed", x.count(4), 0);
        x.set(1, 3);
        x.set(0, 3);
        rota("010");
        // 5 and 9 differ by 4; hour 2: 0 has ridden its most
        due(16, "a gap by widths, then by most", x.gaps(), 2 + 4);
        dueRow(16, "ridden all the same", 2, 3);
        x.set(0, 4);
        rota("0121");
        due(16, "the hour ahead was a gap, but ridden", x.gaps(), 2 + 4 + 8);
        dueRow(16, "all four are ridden", 3, 15);
    }

    private static void yearTexts() {
        anew(4, "25abcd;17ac;32bd;49abcdefgh");
        String[] texts = {"q", "n", "i", "g", "x", "g0", "x0", "g0x", "n1q", "n-", "i-", "g-0", "x0-", "gx", "nn",
            "n1g0-x01n", "N1", "n1 "};
        int[] places = {0, 1, 1, 1, 1, 2, 2, 2, 2, 1, 1, 1, 2, 1, 1, 9, 0, 2};
        for (int i = 0; i < texts.length; i++) {
            due(14, texts[i], year(texts[i]), -1 - places[i]);
            due(14, texts[i] + " empties the text", x.count(11), 0);
        }
        due(14, "nothing was done", x.count(4) + x.count(9) + x.count(10), 0);
        String sixty = "n0n0n0n0n0n0n0n0n0n0n0n0n0n0n0n0n0n0n0n0n0n0n0n0n0n0n0n0n0n1";
        due(14, "60 signs", year(sixty), 30);
        due(14, "NIGHT", x.count(4), 1);
        due(14, "61 signs", year(sixty + "n"), -61);
        due(14, "62 signs, wrong behind", year(sixty + "zz"), -61);
        due(14, "62 signs, wrong at 59", year(sixty.substring(0, 59) + "zn0"), -60);
        due(14, "61 signs, half an act at 60", year("g00" + sixty.substring(0, 58)), -61);
        due(14, "NIGHT", x.count(4), 1);
        x.undo();
        due(14, "empty", year(""), 0);
        dueRow(14, "empty", 0, 0);
        due(14, "nothing to undo", x.count(9), 0);
        due(14, "acts", year("g00g12g20g32n1i0x01"), 7);
        dueRow(14, "acts", 0, 0);
        int[] want = {1, 2, 1, 2, -1, -1, -1, -1};
        for (int h = 0; h < 8; h++) {
            due(14, "hour " + h, x.count(20 + h), want[h]);
        }
        due(14, "as one", x.undo(), 0);
        due(14, "one can't be", year("g00n1i4n1"), 2);
        dueRow(14, "one can't be", 1, 3);
        due(14, "the first can't be", year("x00n1"), 0);
        dueRow(14, "the first can't be", 1, 3);
        due(14, "x04", year("x04"), 0);
        due(14, "x40", year("x40"), 0);
        due(14, "g80", year("g80"), 0);
        due(14, "g04", year("g04"), 0);
        due(14, "one to undo", x.count(9), 1);
        due(14, "g0- and n0", year("g0-n0"), 2);
        dueRow(14, "g0- and n0", 0, 3);
        due(14, "two to undo", x.count(9), 2);
        due(14, "hour 0", x.count(20), -1);
        due(14, "x of hours behind the night", year("g73x03"), 2);
        due(14, "hour 7", x.count(27), 0);
    }

    private static void undone() {
        anew(4, "25abcd;17ac;32bd;49abcdefgh");
        due(15, "none", x.undo(), -1);
        for (int i = 0; i < 13; i++) {
            x.give(0, i % 4);
        }
        due(15, "12 are kept", x.count(9), 12);
        for (int i = 11; i >= 0; i--) {
            due(15, "undo", x.undo(), i);
            due(15, "hour 0", x.count(20), i % 4);
        }
        due(15, "none left", x.undo(), -1);
        due(15, "the oldest is not undone", x.count(20), 0);
        x.give(1, 1);
        due(15, "an empty riders() forgets none", riders(""), 0);
        due(15, "one yet", x.count(9), 1);
        due(15, "a refused riders() forgets none", riders("x"), -1);
        due(15, "one yet", x.count(9), 1);
        due(15, "a refused again() forgets none", x.again(0), false);
        due(15, "one yet", x.count(9), 1);
        due(15, "riders() forgets", riders("11"), 1);
        due(15, "none", x.undo(), -1);
        due(15, "THE ROTA is as it was", x.count(21), 1);
    }

    private static void undoneByWhat() {
        anew(4, "25abcd;17ac;32bd;49abcdefgh");
        rota("0202");
        x.nights(3);
        x.ill(2);
        year("n2i0x01");
        x.takes();
        x.sheet(2, 4, 90, 0);
        due(15, "undo takes()", x.undo(), 4);
        due(15, "TIRED as ahead of takes()", x.rider(0, 3), 99);
        due(15, "hour 0", x.count(20), 1);
        due(15, "undo year()", x.undo(), 3);
        due(15, "ILL", x.count(3), 4);
        due(15, "NIGHT", x.count(4), 3);
        due(15, "GAPS", x.count(5), 0);
        due(15, "hour 0", x.count(20), 0);
        due(15, "undo ill()", x.undo(), 2);
        due(15, "ILL", x.count(3), 0);
        due(15, "undo nights()", x.undo(), 1);
        due(15, "NIGHT", x.count(4), 0);
        due(15, "RIDDEN", x.count(6), 0);
        due(15, "TIRED", x.count(7), 0);
        x.set(0, 2);
        due(15, "undo rota()", x.undo(), 0);
        due(15, "hour 0", x.count(20), -1);
        due(15, "HOURS stay as set", x.count(0), 2);
        due(15, "none", x.undo(), -1);
    }

    private static void ahead() {
        anew(2, "11ab;12ab");
        rule("0");
        rota("01");
        due(17, "no gap", x.first(60), -2);
        due(17, "first(0)", x.first(0), -1);
        due(17, "first(61)", x.first(61), -1);
        due(17, "no ROW told", x.count(10), 0);
        due(18, "later(0)", x.later(0), 0);
        dueRow(18, "later(0)", 0, 0);
        due(19, "vigil(60)", x.vigil(60), 60);
        dueRow(19, "vigil(60)", 0);
        due(19, "vigil(0)", x.vigil(0), 0);
        dueRow(19, "vigil(0)", -1);
        x.give(1, 0);
        due(17, "at hour 1", x.first(1), 0);
        dueRow(17, "at hour 1", 1);
        due(19, "gaps in all", x.vigil(5), 0);
        dueRow(19, "gaps in all", -1);
        rule("40+t");
        // rider 0: 40, then 99; rider 1 rests
        due(18, "later(1)", x.later(1), 1);
        dueRow(18, "later(1)", 40, 40);
        due(18, "later(2)", x.later(2), 2);
        dueRow(18, "later(2)", 99, 99);
        due(18, "later(60)", x.later(60), 60);
        dueRow(18, "later(60)", 99, 99);
        due(18, "later(61)", x.later(61), -1);
        due(18, "later(-1)", x.later(-1), -1);
        due(19, "vigil(61)", x.vigil(61), -1);
        due(19, "vigil(-1)", x.vigil(-1), -1);
        due(18, "no night passed", x.count(4) + x.count(7), 0);
        x.sheet(2, 2, 50, 20); // 50 and 70
        due(18, "who rests is less tired", x.later(1), 1);
        dueRow(18, "who rests is less tired", 99 + 65, 99);
    }

    private static void trades() {
        anew(4, "25abcd;17ac;32bd;49abcdefgh");
        rota("0022");
        // 2 can b and d alone: 0202 by exchange of hours 1 and 2
        due(20, "trade", x.trade(), 0);
        dueRow(20, "trade", 1, 2, 1);
        due(20, "THE ROTA is as it was", x.count(21), 0);
        rota("0202");
        due(20, "no gap as it is", x.trade(), 0);
        dueRow(20, "no gap as it is", 0, 2, 0);
        rota("----");
        due(20, "nobody's", x.trade(), 4);
        dueRow(20, "nobody's", 0, 1, 4);
        x.set(0, 1);
        due(20, "one hour", x.trade(), -2);
        dueRow(20, "the ROW is as it was", 0, 1, 4);
        anew(2, "11a;11b");
        rota("1-");
        due(20, "with nobody", x.trade(), 1);
        dueRow(20, "with nobody", 0, 1, 2);
    }

    private static void easiestOnes() {
        anew(4, "25abcd;17ac;32bd;49abcdefgh");
        due(21, "easiest", x.easiest(), 14);
        dueRow(21, "easiest", 0, 2, 0, 2);
        rule("5");
        due(21, "of like ones the least row", x.easiest(), 20);
        dueRow(21, "of like ones the least row", 0, 0, 1, 2);
        rule("999");
        x.set(0, 8);
        x.ill(3);
        due(21, "none", x.easiest(), -2);
        dueRow(21, "the ROW is as it was", 0, 0, 1, 2);
        x.ill(3);
        due(21, "one more", riders("49efgh"), 1);
        due(21, "the most", x.easiest(), 7992);
        dueRow(21, "the most", 0, 0, 1, 2, 3, 3, 3, 3);
        rule("");
        x.set(0, 4);
        x.give(7, 3);
        x.give(0, 0);
        due(26, "takes", x.takes(), 3);
        dueRow(26, "the ROW is as it was", 0, 0, 1, 2, 3, 3, 3, 3);
        int[] want = {0, 2, 0, 2, -1, -1, -1, 3};
        for (int h = 0; h < 8; h++) {
            due(26, "hour " + h, x.count(20 + h), want[h]);
        }
        due(26, "takes again", x.takes(), 0);
        due(26, "both can be undone", x.count(9), 4);
        for (int r = 0; r < 5; r++) {
            x.ill(r);
        }
        due(26, "none", x.takes(), -2);
        due(26, "none to undo", x.count(9), 9);
        due(21, "all are ill", x.easiest(), -2);
    }

    private static void fewestAndBare() {
        anew(4, "25abcd;17ac;32bd;49abcdefgh");
        due(22, "fewest", x.fewest(), 1);
        dueRow(22, "fewest", 8);
        due(23, "all can", x.bare(), -2);
        dueRow(23, "the ROW is as it was", 8);
        x.ill(3);
        due(22, "without the last", x.fewest(), 2);
        dueRow(22, "without the last", 5);
        x.ill(0);
        due(22, "none", x.fewest(), -2);
        dueRow(22, "the ROW is as it was", 5);
        due(23, "bare", x.bare(), 2);
        dueRow(23, "bare", 5);
        x.ill(2);
        due(23, "one hour", x.bare(), 1);
        dueRow(23, "one hour", 2);
        anew(4, "11ab;11ab;11abc");
        due(23, "four hours by three riders", x.bare(), 1);
        dueRow(23, "hour 3", 8);
        x.set(0, 3);
        due(23, "three hours by three riders", x.bare(), -2);
        due(22, "three riders", x.fewest(), 3);
        dueRow(22, "three riders", 7);
        anew(3, "11abc;11abc");
        due(23, "three hours by two riders", x.bare(), 3);
        dueRow(23, "three hours by two riders", 7);
    }

    private static void rotasAndMended() {
        anew(2, "22ab;11a;31b");
        due(24, "rotas", x.rotas(), 4);
        dueRow(24, "rotas", 0, 0);
        x.ill(0);
        due(24, "one rota", x.rotas(), 1);
        dueRow(24, "one rota", 1, 2);
        x.ill(1);
        due(24, "none", x.rotas(), 0);
        dueRow(24, "none");
        anew(8, "41abcdefgh;42abcdefgh");
        due(24, "eight by four", x.rotas(), 70);
        dueRow(24, "eight by four", 0, 0, 0, 0, 1, 1, 1, 1);
        anew(8, "41abcdefgh;41abcdefgh;41abcdefgh;41abcdefgh");
        riders("41abcdefgh;41abcdefgh;41abcdefgh;41abcdefgh");
        due(24, "the most", x.rotas(), 16612120);
        anew(4, "25abcd;17ac;32bd;49abcdefgh");
        rota("0202");
        due(25, "mended(0)", x.mended(0), 2);
        dueRow(25, "mended(0)", 1, 2, 3, 2);
        due(25, "mended(1)", x.mended(1), 0);
        dueRow(25, "mended(1)", 0, 2, 0, 2);
        rota("----");
        due(25, "of nobody's all differ", x.mended(3), 4);
        dueRow(25, "of nobody's all differ", 0, 0, 1, 2);
        due(25, "mended(4)", x.mended(4), -1);
        due(25, "mended(-1)", x.mended(-1), -1);
        x.ill(3);
        due(25, "none", x.mended(0), -2);
        dueRow(25, "the ROW is as it was", 0, 0, 1, 2);
    }

    private static void missedAndPaid() {
        anew(4, "25abcd;17ac;32bd;49abcdefgh");
        int[] missed = {6, 0, 12, 0};
        int[] paid = {16, 0, 16, 0};
        int[] own = {10, 0, 4, 0};
        for (int r = 0; r < 4; r++) {
            due(27, "missed(" + r + ")", x.missed(r), missed[r]);
            due(28, "paid(" + r + ")", x.paid(r), paid[r]);
            dueRow(28, "paid(" + r + ")", own[r], 14 - own[r]);
        }
        due(27, "missed(4)", x.missed(4), -1);
        due(27, "missed(-1)", x.missed(-1), -1);
        due(28, "paid(4)", x.paid(4), -1);
        due(28, "paid(-1)", x.paid(-1), -1);
        x.ill(3);
        due(27, "none then", x.missed(0), -2);
        due(28, "none then", x.paid(0), -2);
        dueRow(28, "the ROW is as it was", 0, 14);
        due(27, "an ill one", x.missed(3), 0);
        x.ill(0);
        due(27, "none now", x.missed(1), -2);
        due(28, "none now", x.paid(1), -2);
    }

    private static void fairestAndAway() {
        anew(4, "25abcd;17ac;32bd;49abcdefgh");
        due(29, "fairest", x.fairest(), 7);
        dueRow(29, "fairest", 16);
        due(30, "away", x.away(), 3);
        dueRow(30, "away", 7);
        x.ill(3);
        due(29, "without the last", x.fairest(), 7);
        due(30, "without the last", x.away(), 1);
        dueRow(30, "without the last", 2);
        x.ill(0);
        due(29, "none", x.fairest(), -2);
        due(30, "none", x.away(), -2);
        dueRow(30, "the ROW is as it was", 2);
        anew(1, "11a;11a;11a");
        due(30, "of as many the least", x.away(), 2);
        dueRow(30, "of as many the least", 3);
        rule("i");
        due(29, "nobody has more than 0", x.fairest(), 0);
        dueRow(29, "nobody has more than 0", 0);
        x.set(0, 1);
        anew(2, "11a;11b");
        due(30, "nobody can be away", x.away(), 0);
        dueRow(30, "nobody can be away", 0);
    }

    private static void whoCan() {
        anew(4, "25abcd;17ac;32bd;49abcdefgh;25a");
        due(31, "able(0)", x.able(0), 4);
        dueRow(31, "able(0)", 0, 4, 1, 3);
        due(31, "able(1)", x.able(1), 3);
        dueRow(31, "able(1)", 2, 0, 3);
        x.ill(3);
        due(31, "able(7)", x.able(7), 0);
        dueRow(31, "able(7)");
        due(31, "able(8)", x.able(8), -1);
        due(31, "able(-1)", x.able(-1), -1);
        due(32, "spent(8), ill ones too", x.spent(8), 8);
        dueRow(32, "spent(8)", 1, 18);
        due(32, "spent(6)", x.spent(6), 2 + 8);
        dueRow(32, "spent(6)", 2, 18);
        due(32, "spent(18)", x.spent(18), 0);
        dueRow(32, "spent(18)", 0, 0);
        due(32, "spent(0)", x.spent(0), 31);
        due(32, "spent(999)", x.spent(999), 0);
        due(32, "spent(1000)", x.spent(1000), -1);
        due(32, "spent(-1)", x.spent(-1), -1);
        due(33, "shared(0, 1)", x.shared(0, 1), 5);
        dueRow(33, "shared(0, 1)", 240);
        due(33, "shared(1, 2)", x.shared(1, 2), 0);
        dueRow(33, "shared(1, 2)", 240);
        due(33, "shared(2, 3)", x.shared(2, 3), 10);
        dueRow(33, "shared(2, 3)", 0);
        due(33, "like ones", x.shared(1, 1), -1);
        due(33, "none such", x.shared(0, 5), -1);
        due(33, "none such", x.shared(-1, 0), -1);
        due(34, "thin", x.thin(), 1);
        dueRow(34, "thin", 2);
        x.set(0, 8);
        due(34, "of 8 hours", x.thin(), 4);
        dueRow(34, "of 8 hours", 0);
        anew(8, "11abcdefgh;11abcdefgh;11abcdefgh;11abcdefgh");
        riders("11abcdefgh;11abcdefgh;11abcdefgh;11abcdefgh");
        due(34, "all can all", x.thin(), 0);
        dueRow(34, "all can all", 8);
        due(31, "all can all", x.able(3), 8);
        dueRow(31, "all can all", 0, 1, 2, 3, 4, 5, 6, 7);
    }

    private static void handOns() {
        anew(8, "11abcdefgh;15abcdefgh;49abcdefgh");
        due(35, "nobody's", x.changes(), 0);
        dueRow(35, "nobody's", 0, 0);
        rota("0012-122");
        due(35, "changes", x.changes(), 3);
        dueRow(35, "changes", 0, 12);
        x.set(1, 3);
        due(35, "by more than 3", x.changes(), 3);
        dueRow(35, "by more than 3", 3, 12);
        x.ill(1);
        due(35, "as it is told", x.changes(), 3);
        x.ill(1);
        x.set(0, 2);
        due(35, "of all 8 hours", x.changes(), 3);
        x.set(0, 8);
        due(36, "none is held", x.smoothest(), -2);
        due(36, "one more", riders("43abcdefgh"), 1);
        // widths 1, 5 (once each), 9 and 3 (four times each): from 9 down to 3 it is 6, with 5 between or not
        due(36, "smoothest", x.smoothest(), 6);
        dueRow(36, "smoothest", 2, 2, 2, 1, 3, 3, 3, 3);
        anew(2, "11ab;11ab");
        due(36, "like widths", x.smoothest(), 0);
        dueRow(36, "like widths", 0, 1);
        anew(1, "19a;11a");
        due(36, "one hour", x.smoothest(), 0);
        dueRow(36, "one hour", 0);
    }

    private static void strides() {
        anew(4, "25abcd;17ac;35bd;49abcdefgh");
        due(37, "meets(0, 1, 5)", x.meets(0, 1, 5), 2);
        dueRow(37, "meets(0, 1, 5)", 0, 200);
        // like widths, numbers 0 and 2: never by 3, always by 2
        due(37, "never", x.meets(0, 2, 3), -2);
        dueRow(37, "the ROW is as it was", 0, 200);
        due(37, "always", x.meets(0, 2, 2), 1);
        dueRow(37, "always", 1, 999);
        // 7s + 1 and 9s + 3 by 40: 2s + 2 = 0: s = 19, 39, ..
        due(37, "meets(1, 3, 40)", x.meets(1, 3, 40), 19);
        dueRow(37, "meets(1, 3, 40)", 14, 50);
        due(37, "p 1", x.meets(0, 1, 1), -1);
        due(37, "p 41", x.meets(0, 1, 41), -1);
        due(37, "p 0", x.meets(0, 1, 0), -1);
        due(37, "like ones", x.meets(1, 1, 5), -1);
        due(37, "none such", x.meets(4, 1, 5), -1);
        due(37, "none such", x.meets(1, -1, 5), -1);
    }

    private static void findings() {
        anew(4, "25abcd;17ac;32bd;49abcdefgh");
        due(38, "found", x.found(0, 1, 1), 1);
        due(40, "fits", x.fits(), 17);
        dueRow(40, "fits", 1, 0, 0, 2);
        due(41, "sure(2, 0)", x.sure(2, 0), 8);
        dueRow(41, "sure(2, 0)", 8, 17);
        due(41, "sure(0, 1)", x.sure(0, 1), 17);
        dueRow(41, "sure(0, 1)", 1, 1);
        due(41, "sure(0, 0)", x.sure(0, 0), 0);
        dueRow(41, "sure(0, 0)", 0, 1);
        due(41, "hour 4", x.sure(4, 0), -1);
        due(41, "hour -1", x.sure(-1, 0), -1);
        due(41, "rider 4", x.sure(0, 4), -1);
        due(42, "ask", x.ask(), 1);
        dueRow(42, "ask", 6);
        due(38, "hour 8", x.found(8, 0, 0), -1);
        due(38, "hour -1", x.found(-1, 0, 0), -1);
        due(38, "rider 4", x.found(0, 4, 0), -1);
        due(38, "is 2", x.found(0, 0, 2), -1);
        due(38, "is -1", x.found(0, 0, -1), -1);
        due(38, "found not", x.found(0, 1, 0), 2);
        due(40, "none fits", x.fits(), 0);
        dueRow(40, "none fits");
        due(41, "none fits", x.sure(0, 0), -2);
        due(42, "none fits", x.ask(), -2);
        for (int i = 3; i <= 12; i++) {
            due(38, "found", x.found(7, 3, 1), i);
        }
        due(38, "a 13th", x.found(7, 3, 1), -1);
        due(38, "findings", x.count(8), 12);
        due(39, "forget", x.forget(), 12);
        due(39, "forget again", x.forget(), 0);
        due(40, "all fit", x.fits(), x.rotas());
        x.found(7, 0, 1);
        due(40, "an hour that the night has not", x.fits(), 63);
        x.found(2, 3, 0);
        x.found(2, 1, 0);
        due(40, "not 3, not 1: 0", x.sure(2, 0), x.fits());
        x.undo();
        due(38, "undo leaves findings", x.count(8), 3);
    }

    private static void chances() {
        x = new RockingHorse();
        due(43, "no riders", x.held(0), 0);
        dueRow(43, "no riders", 0, 1);
        due(44, "no riders", x.keystone(0), -2);
        dueRow(44, "the ROW is as it was", 0, 1);
        due(44, "p first", x.keystone(11), -1);
        anew(1, "11a;11a;11");
        due(43, "p 3", x.held(3), 0);
        dueRow(43, "p 3", 91, 100);
        due(43, "p 0", x.held(0), 0);
        dueRow(43, "p 0", 1, 1);
        due(43, "p 10", x.held(10), 0);
        dueRow(43, "p 10", 0, 1);
        due(44, "p 3", x.keystone(3), 0);
        dueRow(44, "p 3", 7, 10);
        x.ill(0);
        due(43, "one is ill", x.held(3), 0);
        dueRow(43, "one is ill", 7, 10);
        due(44, "one is ill", x.keystone(3), 1);
        dueRow(44, "one is ill", 0, 1);
        x.ill(1);
        x.ill(2);
        due(44, "all are ill", x.keystone(3), -2);
        due(43, "all are ill", x.held(3), 0);
        dueRow(43, "all are ill", 0, 1);
        due(43, "p 11", x.held(11), -1);
        due(43, "p -1", x.held(-1), -1);
        due(44, "p 11", x.keystone(11), -1);
        due(44, "p -1", x.keystone(-1), -1);
        anew(8, "11a;11b;11c;11d;11e;11f;11g;11h");
        due(43, "all eight are due", x.held(1), 0);
        dueRow(43, "all eight are due", 43046721, 100000000);
        due(44, "all eight are due", x.keystone(1), 0);
        dueRow(44, "all eight are due", 0, 1);
    }

    private static void bids() {
        due(45, "rests(3, 5)", x.rests(3, 5), 56);
        dueRow(45, "rests(3, 5)", 0, 3, 20);
        // Worth nothing: who has it pays nothing by the other's 0 alone.
        due(45, "rests(0, 0)", x.rests(0, 0), 19);
        dueRow(45, "rests(0, 0)", 0, 0, 10);
        due(45, "rests(10, 0)", x.rests(10, 0), -1);
        due(45, "rests(0, 10)", x.rests(0, 10), -1);
        due(45, "rests(-1, 0)", x.rests(-1, 0), -1);
        due(45, "rests(0, -1)", x.rests(0, -1), -1);
        // Worth 9 to the one, nothing to the other: all by which the first has it, and 0, 9.
        due(45, "rests(9, 0)", x.rests(9, 0), 56);
        dueRow(45, "rests(9, 0)", 0, 0, 55);
    }

    private static void laws() {
        anew(4, "25abcd;17ac;32bd;49abcdefgh");
        due(46, "nobody's", law("9"), 0);
        dueRow(46, "nobody's", 0, 0);
        rota("02-1");
        x.give(7, 3);
        due(46, "w*2", law("w*2"), 14);
        dueRow(46, "w*2", 28, 14);
        due(46, "0", law("0"), -14);
        dueRow(46, "0", 0, 14);
        rule("7");
        due(46, "empty: the rule at first", law(""), -7);
        dueRow(46, "empty: the rule at first", 14, 21);
        due(46, "another rule stays another", x.hard(0, 0), 7);
        due(46, "p 0", law("x"), -10000);
        due(46, "p 2", law("w+"), -10002);
        due(46, "p 40", law("1+1+1+1+1+1+1+1+1+1+1+1+1+1+1+1+1+1+1+1+1"), -10040);
        due(46, "the text is empty", x.count(11), 0);
        dueRow(46, "the ROW is as it was", 14, 21);
    }

    private static void drawnYears() {
        x = new RockingHorse();
        x.set(0, 1);
        // Without RIDERS each of 60 draws is a night or nothing.
        int nights = 0;
        int r = 7;
        for (int i = 0; i < 60; i++) {
            r = r * 1103515245 + 12345;
            nights += (r >>> 16) % 4 < 2 ? 1 : 0;
        }
        due(47, "without riders", x.years(7, 60), nights);
        dueRow(47, "without riders", 0, 0);
        due(47, "n 0", x.years(1, 0), -1);
        due(47, "n 61", x.years(1, 61), -1);
        due(47, "n -1", x.years(1, -1), -1);
        due(47, "nothing changed", x.count(4), 0);
        anew(1, "11a");
        x.give(0, 0);
        // Seed 1: 1103527590 by 65536 is 16838, 2 of 4: rider 0 falls ill, by a draw more.
        due(47, "the first draw", x.years(1, 1), 0);
        dueRow(47, "the first draw", 0, 0);
        due(47, "nobody is ill", x.count(3), 0);
        due(47, "none to undo but give()", x.count(9), 1);
        int rest = restOf(1, 60);
        due(47, "60 draws", x.years(1, 60), rest);
        due(47, "60 draws of seed MIN", x.years(Integer.MIN_VALUE, 60), restOf(Integer.MIN_VALUE, 60));
    }

    /** GAPS of one rider, one hour, hour 0 given to it, by draws. */
    private static int restOf(int seed, int n) {
        int r = seed;
        int gaps = 0;
        boolean ill = false;
        for (int i = 0; i < n; i++) {
            r = r * 1103515245 + 12345;
            int kind = (r >>> 16) % 4;
            gaps += kind < 2 && ill ? 1 : 0;
            ill ^= kind == 2;
            for (int k = 1; k < kind; k++) {
                r = r * 1103515245 + 12345; // of one rider; of an hour and one rider
            }
        }
        return gaps;
    }

    private static void keptOnes() {
        anew(4, "25abcd;17ac;32bd;49abcdefgh");
        due(49, "nothing kept", x.again(0), false);
        rota("0202");
        x.nights(1);
        due(48, "keep(0)", x.keep(0), true);
        x.nights(2);
        x.ill(0);
        due(48, "keep(1)", x.keep(1), true);
        due(48, "keep(2)", x.keep(2), false);
        due(48, "keep(-1)", x.keep(-1), false);
        due(49, "again(0)", x.again(0), true);
        due(49, "NIGHT", x.count(4), 1);
        due(49, "TIRED", x.count(7), 14);
        due(49, "RIDDEN", x.count(6), 4);
        due(49, "none to undo", x.undo(), -1);
        due(49, "again(1)", x.again(1), true);
        due(49, "ILL", x.count(3), 1);
        due(49, "NIGHT", x.count(4), 3);
        x.give(0, -1);
        due(49, "again(1) twice", x.again(1), true);
        due(49, "hour 0", x.count(20), 0);
        due(49, "again(2)", x.again(2), false);
        due(49, "again(-1)", x.again(-1), false);
        riders("");
        due(49, "no RIDERS came", x.again(0), true);
        riders("x");
        due(49, "no RIDERS came", x.again(0), true);
        riders("11");
        due(49, "RIDERS came", x.again(0), false);
        due(49, "RIDERS came", x.again(1), false);
        due(48, "keep(1) anew", x.keep(1), true);
        due(49, "nothing kept since", x.again(0), false);
        due(49, "again(1)", x.again(1), true);
    }

    private static void countsAndRows() {
        anew(3, "25abcd;17ac;32bd;49abcdefgh");
        x.set(1, 7);
        rota("02-");
        x.nights(2);
        x.ill(1);
        x.ill(3);
        x.found(0, 0, 1);
        x.sign(0);
        // TIRED 0: 5, then 5 + 10; TIRED 2: 2, then 2 + 4
        int[] counts = {3, 7, 4, 10, 2, 2, 4, 21, 1, 4, 2, 4};
        for (int what = 0; what < counts.length; what++) {
            due(50, "count(" + what + ")", x.count(what), counts[what]);
        }
        due(50, "count(20)", x.count(20), 0);
        due(50, "count(21)", x.count(21), 2);
        due(50, "count(22)", x.count(22), -1);
        for (int what : new int[] {-1, 12, 19, 28, Integer.MAX_VALUE, Integer.MIN_VALUE}) {
            due(50, "count(" + what + ")", x.count(what), -100);
        }
        dueRow(51, "nights", 4, 21);
        due(51, "row(2) throws", rowThrows(2), true);
        due(51, "row(-1) throws", rowThrows(-1), true);
        due(51, "row(MAX) throws", rowThrows(Integer.MAX_VALUE), true);
        due(51, "a refused call leaves the ROW", x.later(61), -1);
        dueRow(51, "a refused call leaves the ROW", 4, 21);
        due(51, "NONE", RockingHorse.NONE, -1);
    }
}
