import java.io.IOException;

/** The boundary cases that the document's Terms name, each under its own sentence. */
public final class TermsBoundaryTest {
    private static final Bench b = new Bench();

    public static void main(String[] args) throws IOException {
        hoursOfANight();
        beats();
        crewAtMost();
        mostOfARider();
        widthOfARider();
        tiredStaysWithin();
        illOrNot();
        crewTextSigns();
        crewLines();
        rotaAtFirst();
        ruleAtFirst();
        comparisons();
        sums();
        products();
        minusAhead();
        numbers();
        brackets();
        things();
        asInts();
        whoRides();
        gapsByWidth();
        gapsAndRidden();
        tiredByRiding();
        tiredByRest();
        nightsCounted();
        rowToldLast();
        rowsCompared();
        setsAsBits();
        fractions();
        questionsChangeNothing();
        heldRotas();
        refusedTexts();
        callsAtMost();
        b.end(0, 0);
    }

    private static void hoursOfANight() {
        b.says(0, "HOURS 0 .. of a NIGHT: 1 .. 8 of them (at first 8).");
        b.x = new RockingHorse();
        b.due("HOURS at first", b.x.count(0), 8);
        b.due("gaps of 8 HOURS", b.x.gaps(), 255, 8, 0);
        b.x.set(0, 1);
        b.due("gaps of 1 HOUR", b.x.gaps(), 1, 1, 0);
        b.anew(1, "11a");
        b.due("one HOUR is held", b.x.easiest(), 1, 0);
        b.anew(8, "41abcd;41efgh");
        b.due("8 HOURS are held", b.x.easiest(), 26, 0, 0, 0, 0, 1, 1, 1, 1);
        for (int v : new int[] {0, 9, -1, 16, Bench.MIN, Bench.MAX}) {
            b.refused("set(0, " + v + ")", Bench::rich, x -> x.set(0, v), -1);
        }
    }

    private static void beats() {
        b.says(0, "BEATS 0 .. 9 (at first 4).");
        b.anew(2, "11ab;15ab;16ab");
        b.due("BEATS at first", b.x.count(1), 4);
        b.rota("01");
        b.due("4 by 4 BEATS", b.x.gaps(), 0);
        b.rota("02");
        b.due("5 by 4 BEATS", b.x.gaps(), 2);
        for (int v : new int[] {-1, 10, Bench.MIN, Bench.MAX}) {
            b.refused("set(1, " + v + ")", Bench::rich, x -> x.set(1, v), -1);
        }
    }

    private static void crewAtMost() {
        b.says(0, "RIDERS 0 .. (at most 8)");
        b.x = new RockingHorse();
        for (int r = 0; r < 8; r++) {
            b.due("LINE " + r, b.riders("11"), 1);
            b.due("RIDERS", b.x.count(2), r + 1);
        }
        b.due("an 8th one", b.riders("11"), -1);
        b.due("RIDERS", b.x.count(2), 8);
        b.due("of rider 7", Bench.riderOf(b.x, 7, 0), 1);
        b.due("of rider 8", Bench.riderOf(b.x, 8, 0), Bench.THROWN);
    }

    private static void mostOfARider() {
        b.says(0, "MOST 1 .. 4 (hours a NIGHT)");
        for (int most = 1; most <= 4; most++) {
            b.anew(5, most + "1abcdefgh");
            b.due("MOST", b.x.rider(0, 0), most);
            b.rota("00000");
            b.due("it rides the first ones alone", b.x.gaps(), 31 >> most << most, 5 - most, (1 << most) - 1);
            b.x.set(0, most);
            b.due("HELD by MOST HOURS", b.x.rotas(), 1);
            b.x.set(0, most + 1);
            b.due("not HELD by one more", b.x.rotas(), 0);
        }
        b.anew(1, "11a");
        b.rota("0");
        b.x.nights(1);
        b.due("MOST is of one NIGHT", b.x.nights(2), 0, 2, 1 + 2 + 4);
    }

    private static void widthOfARider() {
        b.says(0, "WIDTH 1 .. 9");
        for (int width = 1; width <= 9; width++) {
            b.anew(1, "1" + width);
            b.due("WIDTH", b.x.rider(0, 1), width);
        }
        b.refused("WIDTH 0", Bench::rich, "10", x -> x.riders(), -2);
        b.refused("WIDTH :", Bench::rich, "1:", x -> x.riders(), -2);
        b.refused("WIDTH /", Bench::rich, "1/", x -> x.riders(), -2);
    }

    private static void tiredStaysWithin() {
        b.says(0, "TIRED 0 .. 99 (at first 0)");
        b.anew(1, "11a;11");
        b.due("at first", b.x.rider(0, 3) + b.x.count(7), 0);
        b.rule("99");
        b.rota("0");
        b.due("up to 99", b.x.nights(1), 0, 1, 99);
        b.x.sheet(2, 2, 0, 4);
        b.rule("100");
        b.due("100 is put to 99, 4 less 5 to 0", b.x.nights(1), 0, 1, 99);
        b.due("100 of a sheet", b.x.sheet(2, 2, 99, 1), 198);
        b.due("-1 of a sheet", b.x.sheet(2, 2, 0, -1), 0);
        b.riders("11");
        b.due("at first, of one more", b.x.rider(2, 3), 0);
    }

    private static void illOrNot() {
        b.says(0, "ILL or not (at first not)");
        b.anew(1, "11a");
        b.due("at first", b.x.rider(0, 4) + b.x.count(3), 0);
        b.x.ill(0);
        b.due("then", b.x.rider(0, 4), 1);
        b.riders("11");
        b.due("at first, of one more", b.x.rider(1, 4), 0);
        b.due("the other is so yet", b.x.rider(0, 4), 1);
    }

    private static void crewTextSigns() {
        b.says(0, "They are told by a text of at most 76 signs");
        b.x = new RockingHorse();
        b.due("76 signs", b.riders("11abcdefgh;".repeat(6) + "49abcdefgh"), 7);
        b.due("the last one", b.x.rider(6, 0), 4);
        b.due("its CAN", b.x.rider(6, 2), 255);
        b.x = new RockingHorse();
        b.due("77 signs", b.riders("11abcdefgh;".repeat(5) + "11abcdefg;11;49abcdefg"), -77);
        b.due("none came", b.x.count(2), 0);
    }

    private static void crewLines() {
        b.says(0, "LINES with ; between, each one more: a digit 1 .. 4 (MOST), a digit (WIDTH, not 0), letters a .. h"
            + " (CAN: HOURS 0 .. 7, rising; perhaps none).");
        b.x = new RockingHorse();
        b.due("no letters", b.riders("11;49"), 2);
        b.due("CAN none", b.x.rider(0, 2) + b.x.rider(1, 2), 0);
        for (int h = 0; h < 5; h++) {
            b.riders("11" + (char) ('a' + h));
            b.due("CAN one", b.x.rider(2 + h, 2), 1 << h);
        }
        b.anew(8, "11f;11g;11h;11ah;11abcdefgh");
        int[] can = {32, 64, 128, 129, 255};
        for (int r = 0; r < 5; r++) {
            b.due("CAN of " + r, b.x.rider(r, 2), can[r]);
        }
        oneMoreSign("", "1234");
        oneMoreSign("1", "123456789");
        oneMoreSign("11", "abcdefgh;");
        oneMoreSign("11c", "defgh;");
        oneMoreSign("11h", ";");
        oneMoreSign("11a;", "1234");
    }

    /** Of all 256 signs, which can stand behind those: the text is refused at the sign or taken, or ends too early. */
    private static void oneMoreSign(String ahead, String can) {
        for (char sign = 0; sign < 256; sign++) {
            b.x = new RockingHorse();
            int got = b.riders(ahead + sign);
            boolean stands = can.indexOf(sign) >= 0;
            int place = ahead.length();
            if (stands && (sign == ';' || place == 0 || ahead.endsWith(";"))) {
                b.due("'" + ahead + sign + "' ends too early", got, -2 - place);
            } else {
                b.due("'" + ahead + sign + "' (" + (int) sign + ")", got, stands ? 1 : -1 - place);
            }
        }
    }

    private static void rotaAtFirst() {
        b.says(0, "THE ROTA: of each of 8 HOURS a RIDER or nobody (at first nobody). NIGHT (at first 0), GAPS (at"
            + " first 0), RIDDEN (hours, at first 0).");
        b.anew(3, "11");
        b.dueRota("--------");
        for (int what = 4; what <= 6; what++) {
            b.due("count(" + what + ")", b.x.count(what), 0);
        }
        b.due("HOUR 7 has one, whatever a NIGHT has", b.x.give(7, 0), -1);
        b.dueRota("-------0");
    }

    private static void dueHard(String rule, int want) {
        b.due(rule, b.rule(rule), 0);
        b.due("HARD by " + rule, b.x.hard(0, 0), want);
    }

    private static void dueFault(String rule, int place) {
        b.refused("rule", Bench::rich, rule, x -> x.rule(), -1 - place);
        b.refused("law", Bench::rich, rule, x -> x.law(), -10000 - place);
    }

    private static void ruleAtFirst() {
        b.says(0, "THE RULE is a text of at most 40 signs (at first none: t+w+(h>5)*9).");
        b.anew(8, "17ab");
        b.x.sheet(2, 1, 20, 0);
        b.due("HOUR 0", b.x.hard(0, 0), 27);
        b.due("HOUR 5", b.x.hard(0, 5), 27);
        b.due("HOUR 6", b.x.hard(0, 6), 36);
        b.due("HOUR 7", b.x.hard(0, 7), 36);
        dueHard("1+".repeat(18) + "111", 129);
        dueHard("1+".repeat(19) + "11", 30);
        dueFault("1+".repeat(19) + "111", 40);
    }

    private static void comparisons() {
        b.says(0, "< > = bind least (two; 1 or 0; not one behind the other)");
        b.anew(8, "17ab");
        String[] ones = {"1<2", "2>1", "2=2", "1+1<3", "2<1+2", "7/2=3", "5-1>3", "(1<2)=1", "(1<2)<2", "1=(1<2)",
            "-3<-2", "0>-1", "2*2=4"};
        String[] noughts = {"2<1", "2<2", "1>2", "2>2", "1=2", "1+2<3", "3<1+2", "(2<1)=1", "-2<-3"};
        for (String rule : ones) {
            dueHard(rule, 1);
        }
        for (String rule : noughts) {
            dueHard(rule, 0);
        }
        dueFault("1<2<3", 3);
        dueFault("1<2>3", 3);
        dueFault("1=2=3", 3);
        dueFault("1>2+3<4", 5);
        dueFault("(1<2=3)", 4);
        dueFault("1<(2=3)=4", 7);
        dueFault("(1<2)<3>4", 7);
        dueFault("1<=2", 2);
        dueFault("1==2", 2);
        dueFault("<2", 0);
        dueFault("1<", 2);
        dueFault("(1<)", 3);
        dueHard("(1<2)+(3>2)*(4=4)", 2);
        dueHard("1<(2<(3<(4<(5))))", 0);
    }

    private static void sums() {
        b.says(0, "then + - (from the left)");
        b.anew(8, "17ab");
        dueHard("9-3-2", 4);
        dueHard("9-3+2", 8);
        dueHard("9+3-2-1", 9);
        dueHard("9-2*3", 3);
        dueHard("9-8/4-1", 6);
        dueFault("+1", 0);
        dueFault("1+", 2);
        dueFault("1++2", 2);
        dueFault("1-+2", 2);
        dueFault("1-", 2);
    }

    private static void products() {
        b.says(0, "then * / (from the left; by 0: 0; cut to 0)");
        b.anew(8, "17ab");
        dueHard("7/2*2", 6);
        dueHard("2*7/4", 3);
        dueHard("100/10/5", 2);
        dueHard("5/0", 0);
        dueHard("8+5/0", 8);
        dueHard("5/0*3+1", 1);
        dueHard("5/(2-2)+1", 1);
        dueHard("0/0+4", 4);
        dueHard("10+7/-2", 7);
        dueHard("10+-7/2", 7);
        dueHard("10+-7/-2", 13);
        dueHard("10-(0-1)/2", 10);
        dueHard("1/2", 0);
        dueFault("*1", 0);
        dueFault("/1", 0);
        dueFault("1*", 2);
        dueFault("1/", 2);
        dueFault("1**2", 2);
        dueFault("1-*2", 2);
        dueFault("1*/2", 2);
    }

    private static void minusAhead() {
        b.says(0, "then - ahead of a thing (any many)");
        b.anew(8, "17ab");
        dueHard("--5", 5);
        dueHard("-5", 0);
        dueHard("9+-5", 4);
        dueHard("9--5", 14);
        dueHard("9---5", 4);
        dueHard("-2*-3", 6);
        dueHard("9+2*-3", 3);
        dueHard("9/--3", 3);
        dueHard("--w", 7);
        dueHard("--(2+3)", 5);
        dueHard("-(2-5)", 3);
        dueHard("-".repeat(38) + "w", 7);
        dueHard("-".repeat(39) + "w", 0);
        dueHard("1" + "-".repeat(38) + "w", 8);
        dueHard("1<--2", 1);
        dueFault("-", 1);
        dueFault("-".repeat(40), 40);
        dueFault("-".repeat(40) + "w", 40);
        dueFault("(-)", 2);
        dueFault("-+1", 1);
    }

    private static void numbers() {
        b.says(0, "a NUMBER of 1 to 3 digits");
        b.anew(8, "17ab");
        dueHard("0", 0);
        dueHard("9", 9);
        dueHard("10", 10);
        dueHard("99", 99);
        dueHard("999", 999);
        dueHard("007", 7);
        dueHard("000", 0);
        dueHard("12+345", 357);
        dueFault("1000", 3);
        dueFault("0001", 3);
        dueFault("1+2345", 5);
        dueFault("(1234)", 4);
        dueFault("1 2", 1);
        dueFault("1w", 1);
        dueFault("w1", 1);
        dueFault("(1)2", 3);
        dueFault("1(2)", 1);
    }

    private static void brackets() {
        b.says(0, "an EXPRESSION in ( ) (at most 4 in one another)");
        b.anew(8, "17ab");
        dueHard("((((5))))", 5);
        dueHard("(1+(1+(1+(1+1))))", 5);
        dueHard("(((1)))+((((2))))*(((3)))", 7);
        dueHard("((((1)))+(((2))))", 3);
        dueHard("(2+3)*4", 20);
        dueHard("2*(3+4)", 14);
        dueFault("(((((5)))))", 4);
        dueFault("1+(1+(1+(1+(1+(", 14);
        dueFault("((((1))))+(((((1", 14);
        dueFault("()", 1);
        dueFault("(", 1);
        dueFault("(1", 2);
        dueFault("((1)", 4);
        dueFault(")", 0);
        dueFault("1)", 1);
        dueFault("(1))", 3);
        dueFault("(1)(2)", 3);
        dueFault("w(1)", 1);
        dueFault("[1]", 0);
        dueFault("(1]", 2);
    }

    private static void things() {
        b.says(0, "of a RIDER and an HOUR: h the HOUR, t TIRED, w WIDTH, m MOST, i its number, n NIGHT by 7 (rest), c"
            + " how many HOURS it CAN.");
        b.anew(2, "11;37acefh;29abcdefgh");
        b.x.nights(13);
        b.x.sheet(2, 3, 11, 22);
        String[] rules = {"h", "t", "w", "m", "i", "n", "c"};
        int[] ofOne = {6, 33, 7, 3, 1, 6, 5};
        int[] ofOther = {0, 55, 9, 2, 2, 6, 8};
        int[] ofNone = {7, 11, 1, 1, 0, 6, 0};
        for (int k = 0; k < rules.length; k++) {
            b.rule(rules[k]);
            b.due(rules[k] + " of rider 1, HOUR 6", b.x.hard(1, 6), ofOne[k]);
            b.due(rules[k] + " of rider 2, HOUR 0", b.x.hard(2, 0), ofOther[k]);
            b.due(rules[k] + " of rider 0, HOUR 7", b.x.hard(0, 7), ofNone[k]);
        }
        b.rule("n");
        b.x.nights(1);
        b.due("n in NIGHT 14", b.x.hard(0, 0), 0);
        b.x.nights(1);
        b.due("n in NIGHT 15", b.x.hard(0, 0), 1);
        for (char sign = 0; sign < 256; sign++) {
            b.x = new RockingHorse();
            boolean whole = "htwminc0123456789".indexOf(sign) >= 0;
            boolean part = sign == '-' || sign == '(';
            b.due("sign " + (int) sign + " alone", b.rule("" + sign), whole ? 0 : part ? -2 : -1);
            boolean behind = "+-*/<>=".indexOf(sign) >= 0;
            b.due("sign " + (int) sign + " behind w", b.rule("w" + sign), behind ? -3 : -2);
            boolean digit = sign >= '0' && sign <= '9';
            b.due("sign " + (int) sign + " behind h", b.rule("h" + sign), behind ? -3 : -2);
            b.due("sign " + (int) sign + " behind 12", b.rule("12" + sign), digit ? 0 : behind ? -4 : -3);
            b.due("sign " + (int) sign + " behind (w", b.rule("(w" + sign), sign == ')' ? 0 : behind ? -4 : -3);
            b.due("sign " + (int) sign + " behind (w)", b.rule("(w)" + sign), behind ? -5 : -4);
            b.due("sign " + (int) sign + " behind w*", b.rule("w*" + sign), whole ? 0 : part ? -4 : -3);
        }
    }

    private static void asInts() {
        b.says(0, "As ints, put to 0 .. 999: HARD.");
        b.anew(8, "17ab");
        dueHard("999", 999);
        dueHard("999+1", 999);
        dueHard("998+1", 999);
        dueHard("999*999", 999);
        dueHard("0-1", 0);
        dueHard("0-999*999", 0);
        // 999 * 999 * 999 * 3 is 2991008997, as an int -1303958299.
        dueHard("999*999*999*3", 0);
        dueHard("0-999*999*999*3/999/999/2", 653);
        // 512 * 512 * 512 * 16 is 2 to the 31st, as an int the least one: by -1 it is itself.
        dueHard("512*512*512*16", 0);
        dueHard("-(512*512*512*16)", 0);
        dueHard("512*512*512*16/-1", 0);
        dueHard("512*512*512*16-1", 999);
        dueHard("512*512*512*16/-1<0", 1);
    }

    private static void whoRides() {
        b.says(0, "its RIDER by THE ROTA rides, if there is one, that CAN, is not ILL, and has ridden fewer than MOST"
            + " of this NIGHT: RIDDEN is 1 more; else the HOUR is a GAP");
        b.anew(4, "21ab;21cd;11abcd");
        b.rota("0011");
        b.due("all ride", b.x.gaps(), 0, 0, 15);
        b.rota("0-11");
        b.due("nobody's", b.x.gaps(), 2, 1, 13);
        b.rota("0101");
        b.due("can't", b.x.gaps(), 2 + 4, 2, 9);
        b.rota("0011");
        b.x.ill(1);
        b.due("ILL", b.x.gaps(), 4 + 8, 2, 3);
        b.x.ill(1);
        b.rota("2222");
        b.due("MOST is 1", b.x.gaps(), 2 + 4 + 8, 3, 1);
        b.rota("1122");
        b.due("what it can't it has not ridden", b.x.gaps(), 1 + 2 + 8, 3, 4);
        b.rota("2020");
        b.due("not one behind the other", b.x.gaps(), 4 + 8, 2, 3);
        b.due("the GAPS of a NIGHT", b.x.nights(1), 2, 2, b.x.count(7));
        b.due("RIDDEN", b.x.count(6), 2);
        b.due("GAPS", b.x.count(5), 2);
        b.anew(3, "41defgh");
        b.rota("000");
        b.due("CAN none of the NIGHT", b.x.gaps(), 7, 3, 0);
    }

    private static void gapsByWidth() {
        b.says(0, "it is one too, if it is ridden by another one than the HOUR ahead of it was (both being ridden, in"
            + " this NIGHT) and their WIDTHS differ by more than BEATS (it is RIDDEN all the same).");
        b.anew(2, "41abcd;44abcd;48ab");
        b.rota("01");
        b.x.set(1, 3);
        b.due("differ by BEATS", b.x.gaps(), 0, 0, 3);
        b.x.set(1, 2);
        b.due("differ by BEATS and 1", b.x.gaps(), 2, 1, 3);
        b.rota("10");
        b.due("to a narrower one", b.x.gaps(), 2, 1, 3);
        b.x.set(1, 3);
        b.due("to a narrower one by BEATS", b.x.gaps(), 0, 0, 3);
        b.x.set(1, 0);
        b.rota("00");
        b.due("the same one", b.x.gaps(), 0, 0, 3);
        b.x.set(0, 3);
        b.rota("0-1");
        b.due("nobody between", b.x.gaps(), 2, 1, 5);
        b.x.set(0, 4);
        b.rota("0121");
        // 2 can't HOUR 2: it is no change into HOUR 3.
        b.due("one between that can't", b.x.gaps(), 2 + 4, 2, 11);
        b.x.set(0, 3);
        b.rota("012");
        b.x.ill(1);
        b.x.set(0, 2);
        b.rota("21");
        b.due("an ILL one behind", b.x.gaps(), 2, 1, 1);
        b.rota("12");
        b.due("an ILL one ahead", b.x.gaps(), 1, 1, 2);
        b.x.ill(1);
        b.rota("02");
        b.x.set(1, 7);
        b.due("7 by 7 BEATS", b.x.gaps(), 0);
        b.x.set(1, 6);
        b.due("7 by 6 BEATS", b.x.gaps(), 2, 1, 3);
        b.due("each NIGHT by itself", b.x.nights(2), 2, 4, b.x.count(7));
        b.anew(3, "11abc;19abc;15abc");
        b.rota("012");
        b.due("behind a GAP that was ridden", b.x.gaps(), 2, 1, 7);
        b.x.set(1, 3);
        b.due("behind a GAP that was ridden", b.x.gaps(), 2 + 4, 2, 7);
        b.anew(2, "31ab;31ab");
        b.x.set(1, 0);
        b.rota("01");
        b.due("like WIDTHS by 0 BEATS", b.x.gaps(), 0, 0, 3);
    }

    private static void gapsAndRidden() {
        b.says(0, "GAPS is 1 more for each HOUR that is one.");
        b.anew(8, "41abcdefgh;49abcdefgh");
        b.rota("0101----");
        b.due("three by WIDTHS, four nobody's", b.x.nights(1), 7, 4, b.x.count(7));
        b.due("GAPS", b.x.count(5), 7);
        b.due("RIDDEN", b.x.count(6), 4);
        b.x.set(0, 1);
        b.due("of one HOUR", b.x.nights(3), 0, 3, b.x.count(7));
        b.due("GAPS", b.x.count(5), 7);
        b.due("RIDDEN", b.x.count(6), 7);
    }

    private static void tiredByRiding() {
        b.says(0, "TIRED of each is as much more as the HARD of the HOURS that it rode, as it was ahead of this"
            + " NIGHT, added up (99 at most)");
        b.anew(4, "43abcd;11abcd");
        b.rule("t+h+n");
        b.x.sheet(2, 2, 2, 1);
        b.rota("0010");
        // Rider 0: HOURS 0, 1, 3 with TIRED 2 and NIGHT 0: 2 + 3 + 5; rider 1: HOUR 2: 3 + 2.
        b.due("first NIGHT", b.x.nights(1), 0, 4, 12 + 8);
        b.due("rider 0", b.x.rider(0, 3), 12);
        b.due("rider 1", b.x.rider(1, 3), 8);
        // n is 1 now: 13 + 14 + 16 and 8 + 3.
        b.due("second NIGHT", b.x.nights(1), 0, 4, 55 + 19);
        b.due("rider 0", b.x.rider(0, 3), 55);
        b.due("third NIGHT", b.x.nights(1), 0, 4, 99 + 42);
        b.due("99 at most", b.x.rider(0, 3), 99);
        b.rule("0");
        b.due("it rode, by 0", b.x.nights(1), 0, 4, 99 + 42);
        b.rule("7");
        b.rota("1111");
        b.x.sheet(2, 2, 0, 0);
        b.due("HOURS that it did not ride are not HARD", b.x.nights(1), 3, 1, 7);
        b.rule("1");
        b.x.sheet(2, 2, 0, 98);
        b.due("98 and 1", b.x.nights(1), 3, 1, 99);
        b.due("99 and 1", b.x.nights(1), 3, 1, 99);
        b.x.set(1, 0);
        b.rota("0100");
        b.x.sheet(2, 2, 0, 0);
        b.due("a GAP by WIDTHS is ridden", b.x.nights(1), 2, 4, 4);
    }

    private static void tiredByRest() {
        b.says(0, "if it rode none, 5 less (0 at least)");
        b.anew(1, "11a;11a;11a;11;11a");
        b.rota("0");
        b.rule("3");
        b.x.sheet(2, 5, 4, 1);
        b.x.nights(1);
        int[] want = {7, 0, 1, 2, 3};
        for (int r = 0; r < 5; r++) {
            b.due("rider " + r, b.x.rider(r, 3), want[r]);
        }
        b.x.sheet(2, 5, 20, 0);
        b.x.ill(0);
        b.x.ill(1);
        b.x.nights(1);
        for (int r = 0; r < 5; r++) {
            b.due("ILL or not, rider " + r, b.x.rider(r, 3), 15);
        }
        b.x.nights(3);
        b.due("0 at last", b.x.count(7), 0);
        b.x.nights(1);
        b.due("0 at least", b.x.count(7), 0);
    }

    private static void nightsCounted() {
        b.says(0, "NIGHT is 1 more.");
        b.x = new RockingHorse();
        b.x.nights(1);
        b.due("NIGHT", b.x.count(4), 1);
        b.x.nights(30);
        b.due("NIGHT", b.x.count(4), 31);
        b.due("GAPS without RIDERS", b.x.count(5), 31 * 8);
    }

    private static void rowToldLast() {
        b.says(0, "ROW: numbers told last by a call that says so.");
        b.x = Bench.rich();
        b.x.trade();
        long[] row = {b.x.row(0), b.x.row(1), b.x.row(2)};
        Bench.Call[] silent = {x -> x.sign(0), x -> x.end(0) ? 1 : 0, x -> x.riders(), x -> x.rule(),
            x -> x.rider(0, 0), x -> x.hard(0, 0), x -> x.set(0, 4), x -> x.sheet(2, 4, 1, 1), x -> x.rota(),
            x -> x.give(0, 0), x -> x.ill(1), x -> x.takes(), x -> x.missed(1), x -> x.found(0, 0, 0),
            x -> x.forget(), x -> x.keep(0) ? 1 : 0, x -> x.count(0), x -> x.undo(), x -> x.again(0) ? 1 : 0};
        for (int i = 0; i < silent.length; i++) {
            silent[i].on(b.x);
            b.dueRow("silent call " + i, row);
        }
        b.x.gaps();
        b.due("a shorter one behind a longer one", b.x.count(10), 2);
        b.due("no third number", Bench.rowOf(b.x, 2), Bench.THROWN);
    }

    private static void rowsCompared() {
        b.says(0, "Rows of numbers are compared from the first on.");
        b.anew(3, "22abc;12ac;22abc");
        b.rule("4");
        b.due("of like ones the least row", b.x.easiest(), 12, 0, 0, 1);
        b.due("the first of all", b.x.rotas(), 14, 0, 0, 1);
    }

    private static void setsAsBits() {
        b.says(0, "Sets (of RIDERS, HOURS) are bits.");
        b.anew(8, "11ah;11;11;11;11;11;11;11h");
        b.due("CAN", b.x.rider(0, 2), 129);
        b.x.ill(7);
        b.due("ILL", b.x.count(3), 128);
        b.x.give(0, 7);
        b.x.give(7, 7);
        b.due("HOURS of THE ROTA", b.x.rider(7, 5), 129);
        b.x.ill(7);
        b.due("GAPS", b.x.gaps(), 127, 7, 128);
    }

    private static void fractions() {
        b.says(0, "Fractions are told in lowest terms, upper and lower number (0 by 1).");
        b.anew(1, "11a;11a");
        b.due("25 by 100 left out", b.x.held(5), 0, 3, 4);
        b.due("1 by 1", b.x.held(0), 0, 1, 1);
        b.due("0 by 1", b.x.held(10), 0, 0, 1);
        b.due("96 by 100", b.x.held(2), 0, 24, 25);
        b.due("1 by 2", b.x.sure(0, 0), 1, 1, 2);
        b.x.found(0, 0, 0);
        b.due("0 by 1", b.x.sure(0, 0), 0, 0, 1);
        b.due("1 by 1", b.x.sure(0, 1), 1, 1, 1);
        b.anew(8, "11a;11b;11c;11d;11e;11f;11g;11h");
        b.due("7 by 10, eight times", b.x.held(3), 0, 5764801, 100000000);
    }

    private static void questionsChangeNothing() {
        b.says(0, "Questions change nothing.");
        String[] names = {"hard", "rider", "gaps", "first", "later", "vigil", "trade", "easiest", "fewest", "bare",
            "rotas", "mended", "missed", "paid", "fairest", "away", "able", "spent", "shared", "thin", "changes",
            "smoothest", "meets", "fits", "sure", "ask", "held", "keystone", "rests", "years", "count", "row"};
        Bench.Call[] questions = {x -> x.hard(0, 0), x -> x.rider(0, 0), x -> x.gaps(), x -> x.first(60),
            x -> x.later(60), x -> x.vigil(60), x -> x.trade(), x -> x.easiest(), x -> x.fewest(), x -> x.bare(),
            x -> x.rotas(), x -> x.mended(0), x -> x.missed(1), x -> x.paid(0), x -> x.fairest(), x -> x.away(),
            x -> x.able(0), x -> x.spent(0), x -> x.shared(0, 1), x -> x.thin(), x -> x.changes(), x -> x.smoothest(),
            x -> x.meets(0, 1, 5), x -> x.fits(), x -> x.sure(0, 0), x -> x.ask(), x -> x.held(5), x -> x.keystone(5),
            x -> x.rests(3, 5), x -> x.years(4, 60), x -> x.count(0), x -> Bench.rowOf(x, 0)};
        for (int i = 0; i < questions.length; i++) {
            b.question(names[i], Bench::rich, questions[i]);
        }
        b.question("law", Bench::rich, "h*9+t", x -> x.law());
        b.question("law", Bench::rich, "", x -> x.law());
        for (int seed = 1; seed < 6; seed++) {
            int from = seed;
            b.question("years", Bench::rich, x -> x.years(from, 60));
        }
        String silent = "hard rider bare missed count";
        for (int i = 0; i < questions.length - 1; i++) {
            for (int k = 0; k < questions.length - 1; k++) {
                b.x = Bench.full();
                questions[i].on(b.x);
                dueLikewise(names[k] + " behind " + names[i], questions[k], !silent.contains(names[k]));
            }
        }
    }

    /** A question has the same answer and ROW as on a horse of which nothing was asked yet. */
    private static void dueLikewise(String what, Bench.Call question, boolean tells) {
        RockingHorse other = Bench.full();
        b.due(what, question.on(b.x), question.on(other));
        if (tells) {
            long[] row = new long[other.count(10)];
            for (int i = 0; i < row.length; i++) {
                row[i] = other.row(i);
            }
            b.dueRow(what, row);
        }
    }

    private static void heldRotas() {
        b.says(0, "A HELD rota: one RIDER for each HOUR of a NIGHT, that CAN and is not ILL, none for more HOURS than"
            + " its MOST; widths aside.");
        b.anew(2, "21ab;29ab");
        b.x.set(1, 0);
        b.due("widths aside", b.x.rotas(), 4, 0, 0);
        b.x.ill(0);
        b.due("not ILL", b.x.rotas(), 1, 1, 1);
        b.x.ill(0);
        b.riders("11b");
        b.due("that CAN", b.x.rotas(), 6, 0, 0);
        b.x.set(0, 3);
        b.due("each HOUR", b.x.rotas(), 0);
        b.dueRow("each HOUR");
        b.riders("41c");
        b.due("an HOUR more", b.x.rotas(), 6, 0, 0, 3);
        b.anew(3, "21abc;11abc");
        b.due("no more than MOST", b.x.rotas(), 3, 0, 0, 1);
        b.anew(3, "31abcdefgh");
        b.due("all HOURS one's", b.x.rotas(), 1, 0, 0, 0);
    }

    private static void refusedTexts() {
        b.says(0, "Refused calls answer NONE, or false, and change nothing but THE TEXT, which a call that reads it"
            + " empties.");
        b.due("NONE", RockingHorse.NONE, -1);
        b.refused("riders", Bench::rich, "11a;12b;x", x -> x.riders(), -9);
        b.refused("rule", Bench::rich, "h+w*z", x -> x.rule(), -5);
        b.refused("rota", Bench::rich, "012x", x -> x.rota(), -4);
        b.refused("year", Bench::rich, "n1i0g00q", x -> x.year(), -8);
        b.refused("law", Bench::rich, "h+w*z", x -> x.law(), -10004);
        b.x = new RockingHorse();
        Bench.Call[] reads = {x -> x.riders(), x -> x.rule(), x -> x.rota(), x -> x.year(), x -> x.law()};
        String[] right = {"11abcdefgh", "w", "00000000", "n1", "w"};
        for (int i = 0; i < reads.length; i++) {
            Bench.put(b.x, right[i]);
            b.due("it is not refused", reads[i].on(b.x) >= 0, true);
            b.due("signs of THE TEXT", b.x.count(11), 0);
            Bench.put(b.x, "?".repeat(80));
            b.due("it is refused", reads[i].on(b.x) < 0, true);
            b.due("signs of THE TEXT", b.x.count(11), 0);
        }
    }

    private static void callsAtMost() {
        b.says(0, "An object is used for at most 512 calls after it has been made; what later calls answer is free.");
        b.x = new RockingHorse();
        for (int call = 1; call <= 510; call++) {
            b.due("call " + call, b.x.nights(30), 240);
        }
        b.due("the 511th call", b.x.count(4), 15300);
        b.due("the 512th call", b.x.count(5), 122400);
        b.x = new RockingHorse();
        for (int call = 1; call <= 508; call += 2) {
            b.due("call " + call, b.x.sign(0x2D2D2D2D), 4);
            b.due("call " + (call + 1), b.x.rota(), -5);
        }
        b.x.sign(0x2D2D2D2D);
        b.x.sign(0x2D2D2D2D);
        b.due("the 511th call", b.x.rota(), 0);
        b.due("the 512th call", b.x.count(9), 1);
    }
}
