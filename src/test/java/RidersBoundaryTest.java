import java.io.IOException;
import java.util.function.Supplier;

/** The boundary cases of riders, rules, settings and sheets (promises 1 to 9), each under its own sentence. */
public final class RidersBoundaryTest {
    private static final Bench b = new Bench();

    public static void main(String[] args) throws IOException {
        newObject();
        signs();
        ends();
        ridersRead();
        ridersAtTheirEnd();
        ridersTooLong();
        ridersWithoutRoom();
        ridersNothingComes();
        rulesRead();
        riderAsked();
        hardAsked();
        settings();
        sheets();
        sheetsRefused();
        b.end(1, 9);
    }

    private static void newObject() {
        b.says(1, "No RIDERS.");
        b.x = new RockingHorse();
        b.due("RIDERS", b.x.count(2), 0);
        b.due("of rider 0", Bench.riderOf(b.x, 0, 0), Bench.THROWN);
        b.due("hard", b.x.hard(0, 0), -1);
        b.due("give", b.x.give(0, 0), -2);
        b.due("ill", b.x.ill(0), -1);
        b.due("a rota of nobody", b.rota("--------"), 0);
        b.due("a rota of 0", b.rota("0-------"), -1);
    }

    private static void signs() {
        b.says(2, "Four signs come behind THE TEXT, of v the highest byte first: how many it has.");
        b.x = new RockingHorse();
        b.due("the first four", b.x.sign(0x31396168), 4);
        b.due("highest byte first", b.x.riders(), 1);
        b.due("MOST", b.x.rider(0, 0), 1);
        b.due("WIDTH", b.x.rider(0, 1), 9);
        b.due("CAN", b.x.rider(0, 2), 129);
        b.x.sign(0x34310000);
        b.x.end(2);
        b.due("behind two", b.x.sign(0x62636465), 6);
        b.x.riders();
        b.due("CAN", b.x.rider(1, 2), 2 + 4 + 8 + 16);
        b.due("bytes of minus ones", b.x.sign(-1), 4);
        b.due("255 can't stand", b.x.rule(), -1);
        b.says(2, "Refused: there would be more than 80.");
        b.x = new RockingHorse();
        for (int i = 1; i <= 20; i++) {
            b.due("sign", b.x.sign(0x2D2D2D2D), 4 * i);
        }
        for (int length = 80; length >= 77; length--) {
            int signs = length;
            Supplier<RockingHorse> made = () -> {
                RockingHorse x = Bench.rich();
                Bench.put(x, "w+" + "-".repeat(signs - 2));
                return x;
            };
            b.refused("sign at " + signs, made, x -> x.sign(0x31313131), -1);
        }
        b.x.end(76);
        b.due("sign at 76", b.x.sign(0), 80);
        b.x.end(75);
        b.due("sign at 75", b.x.sign(0), 79);
    }

    private static void ends() {
        b.says(3, "THE TEXT has its first n signs alone: true; false if it has not so many, or n is below 0.");
        b.x = new RockingHorse();
        b.due("end(0) of none", b.x.end(0), true);
        b.due("end(1) of none", b.x.end(1), false);
        b.x.sign(0x312B3232);
        b.due("end(5) of 4", b.x.end(5), false);
        b.due("end(4) of 4", b.x.end(4), true);
        b.due("signs", b.x.count(11), 4);
        b.due("end(3)", b.x.end(3), true);
        b.due("signs", b.x.count(11), 3);
        b.due("end(4) of 3", b.x.end(4), false);
        b.x.rule();
        b.riders("11");
        b.due("the first ones", b.x.hard(0, 0), 3);
        for (int n : new int[] {-1, 4, 80, 81, Bench.MIN, Bench.MAX}) {
            b.refused("end(" + n + ")", Bench::rich, x -> x.end(n) ? 1 : 0, 0);
        }
        Bench.put(b.x, "-".repeat(80));
        b.due("end(81) of 80", b.x.end(81), false);
        b.due("end(80) of 80", b.x.end(80), true);
    }

    private static void dueRidersFault(String text, int place) {
        b.refused("riders", Bench::rich, text, x -> x.riders(), -1 - place);
    }

    private static void ridersRead() {
        b.says(4, "THE TEXT tells of RIDERS (an empty one: nothing): how many LINES.");
        b.refused("empty", Bench::rich, "", x -> x.riders(), 0);
        b.x = new RockingHorse();
        b.due("one LINE", b.riders("11"), 1);
        b.due("two LINES", b.riders("11;11a"), 2);
        b.due("RIDERS", b.x.count(2), 3);
        b.due("five LINES", b.riders("11;22;33;44;15"), 5);
        b.due("RIDERS", b.x.count(2), 8);
        b.due("empty, without room", b.riders(""), 0);
        b.says(4, "-1 - p: the sign at p can't stand there");
        String[] texts = {"x", "0", "5", "a", ";", "-", "1x", "10", "1a", "1;", "11i", "11A", "11`", "111", "11 ",
            "11-", "11a1", "11;x", "11;0", "11;;", "11;11;9", "11ab;22cd;10", "11ab;22cdx;1"};
        int[] places = {0, 0, 0, 0, 0, 0, 1, 1, 1, 1, 2, 2, 2, 2, 2, 2, 3, 3, 3, 3, 6, 11, 9};
        for (int i = 0; i < texts.length; i++) {
            dueRidersFault(texts[i], places[i]);
        }
        dueRidersFault("" + (char) 0, 0);
        dueRidersFault("11" + (char) 225, 2);
    }

    private static void ridersAtTheirEnd() {
        b.says(4, "its end, if it ends too early;");
        dueRidersFault("1", 1);
        dueRidersFault("4", 1);
        dueRidersFault("11;", 3);
        dueRidersFault("11a;", 4);
        dueRidersFault("11abcdefgh;", 11);
        dueRidersFault("11;2", 4);
        dueRidersFault("11;22ab;3", 9);
        dueRidersFault("11abcdefgh;".repeat(3) + "11abcdefgh".substring(0, 1), 34);
        b.x = new RockingHorse();
        b.due("76 signs that end too early", b.riders("11abcdefgh;".repeat(6) + "11abcdefg;"), -77);
        b.due("76 signs that end too early", b.riders("11abcdefgh;".repeat(6) + "11abcdef;1"), -77);
        b.due("none came", b.x.count(2), 0);
        b.says(4, "a letter that is no more than the one ahead: at it;");
        dueRidersFault("11aa", 3);
        dueRidersFault("11ba", 3);
        dueRidersFault("11hh", 3);
        dueRidersFault("11ha", 3);
        dueRidersFault("11aca", 4);
        dueRidersFault("11abcb", 5);
        dueRidersFault("11acb", 4);
        dueRidersFault("11h;12ba", 7);
        b.x = new RockingHorse();
        b.due("the one ahead is of its own LINE", b.riders("11h;11a"), 2);
    }

    private static void ridersTooLong() {
        b.says(4, "76, if it has more and the first 76 could go on or end;");
        String six = "11abcdefgh;".repeat(6);
        Supplier<RockingHorse> made = () -> {
            RockingHorse x = new RockingHorse();
            Bench.put(x, "w*3");
            return x;
        };
        String[] longer = {six + "11abcdefgh;", six + "11abcdefghx", six + "11abcdefgh;11", six + "11abcdefghzzzz",
            six + "11abcdefg;1", six + "11abcdef;11", six + "11abcdef;11ab", "11;" + six + "11abcdefgh",
            "11;" + six + "11abcdefgzz"};
        for (String text : longer) {
            b.refused("riders", made, text, x -> x.riders(), -77);
        }
        b.refused("wrong at 75", made, six + "11abcdefgg" + "h", x -> x.riders(), -76);
        b.refused("wrong at 75", made, six + "11abcdefgxh", x -> x.riders(), -76);
        b.refused("wrong at 0", made, "x" + six + "11abcdefgh", x -> x.riders(), -1);
        b.refused("80 signs, wrong at 70", made, six + "11abxdefghijkl", x -> x.riders(), -71);
    }

    private static void ridersWithoutRoom() {
        b.says(4, "the first sign of a LINE for which there is no room");
        String lines = "11;11;11;11;11;11;11;11";
        b.x = new RockingHorse();
        b.due("a 9th LINE", b.riders(lines + ";11"), -25);
        b.due("a 9th LINE that can't be", b.riders(lines + ";xx"), -25);
        b.due("8 LINES and ;", b.riders(lines + ";"), -25);
        b.due("a 10th LINE", b.riders(lines + ";11;11"), -25);
        b.due("none came", b.x.count(2), 0);
        b.due("8 LINES", b.riders(lines), 8);
        b.due("one more", b.riders("11"), -1);
        b.due("RIDERS", b.x.count(2), 8);
        dueRidersFault("11;11;11;11;11", 12);
        dueRidersFault("11a;11b;11c;11d;11e", 16);
        dueRidersFault("11;11;11;11;", 12);
        dueRidersFault("11;11;11;11x;11", 11);
        b.x = Bench.rich();
        b.due("four more", b.riders("11;11;11;11h"), 4);
    }

    private static void ridersNothingComes() {
        b.says(4, "Nothing of it comes, if a LINE can't.");
        dueRidersFault("49abcdefgh;49abcdefgh;x", 22);
        b.anew(2, "11ab");
        b.due("refused", b.riders("49abcdefgh;39bcd;2"), -19);
        b.due("RIDERS", b.x.count(2), 1);
        b.due("a LINE that can", b.riders("12"), 1);
        b.due("MOST", b.x.rider(1, 0), 1);
        b.due("WIDTH", b.x.rider(1, 1), 2);
        b.due("CAN", b.x.rider(1, 2), 0);
        b.due("no rider 2", Bench.riderOf(b.x, 2, 0), Bench.THROWN);
    }

    private static void rulesRead() {
        b.says(5, "THE TEXT is THE RULE (an empty one: none): 0.");
        b.anew(8, "17ab");
        b.due("a rule", b.rule("w*2"), 0);
        b.due("HARD", b.x.hard(0, 6), 14);
        b.due("empty", b.rule(""), 0);
        b.due("HARD as at first", b.x.hard(0, 6), 16);
        b.due("empty again", b.rule(""), 0);
        b.due("HARD as at first", b.x.hard(0, 5), 7);
        b.says(5, "-1 - p: likewise (40 signs).");
        String forty = "1+".repeat(19) + "11";
        b.due("40 signs", b.rule(forty), 0);
        b.due("HARD", b.x.hard(0, 0), 30);
        String[] texts = {"z", "w+", "(w", "w)", forty + "1", forty + ")", forty + "zzz", forty.substring(0, 39) + "(",
            forty.substring(0, 39) + "+", forty.substring(0, 39) + "z1", "1+".repeat(20), "1+".repeat(20) + "1",
            "1+".repeat(19) + "1(", "1+".repeat(19) + "(1", "1+".repeat(19) + "(1)", "1+".repeat(40), "w" + forty};
        int[] places = {0, 2, 2, 1, 40, 40, 40, 39, 40, 39, 40, 40, 39, 40, 40, 40, 1};
        for (int i = 0; i < texts.length; i++) {
            b.refused("rule", Bench::rich, texts[i], x -> x.rule(), -1 - places[i]);
        }
    }

    private static void riderAsked() {
        b.says(6, "Of a RIDER, what 0: MOST, 1: WIDTH, 2: CAN (bits; all 8 HOURS), 3: TIRED, 4: 1 if ILL, 5: HOURS of"
            + " THE ROTA that are its (bits).");
        b.anew(1, "11;49ah;11;11;11;11;11;23bcg");
        b.x.sheet(2, 8, 13, 1);
        b.x.ill(7);
        b.x.give(0, 7);
        b.x.give(7, 7);
        b.x.give(3, 1);
        int[][] want = {{1, 1, 0, 13, 0, 0}, {4, 9, 129, 14, 0, 8}, {2, 3, 2 + 4 + 64, 20, 1, 129}};
        int[] who = {0, 1, 7};
        for (int k = 0; k < 3; k++) {
            for (int what = 0; what <= 5; what++) {
                b.due("rider(" + who[k] + ", " + what + ")", b.x.rider(who[k], what), want[k][what]);
            }
        }
        b.says(6, "NoSuchElementException: none such, another what.");
        for (int rider : new int[] {-1, 4, 8, Bench.MIN, Bench.MAX}) {
            for (int what = 0; what <= 6; what++) {
                int asked = what;
                b.refused("rider(" + rider + ", " + what + ")", Bench::rich, x -> Bench.riderOf(x, rider, asked),
                    Bench.THROWN);
            }
        }
        for (int what : new int[] {-1, 6, Bench.MIN, Bench.MAX}) {
            b.refused("rider(3, " + what + ")", Bench::rich, x -> Bench.riderOf(x, 3, what), Bench.THROWN);
        }
    }

    private static void hardAsked() {
        b.says(7, "HARD of an HOUR (0 .. 7) for a RIDER now.");
        b.anew(1, "11;12h");
        b.rule("h+t+n*100");
        b.due("HOUR 0", b.x.hard(1, 0), 0);
        b.due("HOUR 7", b.x.hard(1, 7), 7);
        b.x.sheet(2, 2, 0, 30);
        b.due("TIRED now", b.x.hard(1, 7), 37);
        b.x.nights(1);
        b.due("in this NIGHT", b.x.hard(1, 7), 132);
        b.due("one that can't", b.x.hard(0, 3), 103);
        b.x.ill(0);
        b.due("one that is ILL", b.x.hard(0, 3), 103);
        b.says(7, "NONE: none such.");
        for (int v : new int[] {-1, 8, Bench.MIN, Bench.MAX}) {
            b.refused("hard(0, " + v + ")", Bench::rich, x -> x.hard(0, v), -1);
            b.refused("hard(" + v + ", 0)", Bench::rich, x -> x.hard(v, 0), -1);
        }
        b.refused("hard(4, 0)", Bench::rich, x -> x.hard(4, 0), -1);
    }

    private static void settings() {
        b.says(8, "What 0: how many HOURS a NIGHT has (1 .. 8), 1: BEATS (0 .. 9) becomes v: what it was.");
        b.x = new RockingHorse();
        int was = 8;
        for (int v = 1; v <= 8; v++) {
            b.due("set(0, " + v + ")", b.x.set(0, v), was);
            b.due("HOURS", b.x.count(0), v);
            was = v;
        }
        was = 4;
        for (int v = 0; v <= 9; v++) {
            b.due("set(1, " + v + ")", b.x.set(1, v), was);
            b.due("BEATS", b.x.count(1), v);
            was = v;
        }
        b.due("none to undo", b.x.count(9), 0);
        b.says(8, "Refused: others.");
        int[][] others = {{0, 0}, {0, 9}, {0, -1}, {1, -1}, {1, 10}, {2, 1}, {-1, 1}, {0, Bench.MIN}, {0, Bench.MAX},
            {1, Bench.MIN}, {1, Bench.MAX}, {Bench.MIN, 1}, {Bench.MAX, 1}};
        for (int[] other : others) {
            b.refused("set(" + other[0] + ", " + other[1] + ")", Bench::rich, x -> x.set(other[0], other[1]), -1);
        }
    }

    private static void sheets() {
        b.says(9, "bytes (kind 0), shorts (1), ints (2) of n entries f, f + step, .. (of bytes, shorts the lowest"
            + " bits, with their sign; put to 0 .. 99)");
        b.anew(8, "11;11;11;11");
        b.due("bytes 126 .. 129", b.x.sheet(0, 4, 126, 1), 198);
        b.dueTired(99, 99, 0, 0);
        b.due("bytes 255 .. 258", b.x.sheet(0, 4, 255, 1), 3);
        b.dueTired(0, 0, 1, 2);
        b.due("bytes 354 .. 357", b.x.sheet(0, 4, 354, 1), 98 + 3 * 99);
        b.dueTired(98, 99, 99, 99);
        b.due("bytes -256 ..", b.x.sheet(0, 4, -257, 1), 3);
        b.dueTired(0, 0, 1, 2);
        b.due("bytes by -128", b.x.sheet(0, 4, 130, -128), 4);
        b.dueTired(0, 2, 0, 2);
        b.due("shorts 32766 ..", b.x.sheet(1, 4, 32766, 1), 198);
        b.dueTired(99, 99, 0, 0);
        b.due("shorts 65535 ..", b.x.sheet(1, 4, 65535, 1), 3);
        b.dueTired(0, 0, 1, 2);
        b.due("shorts 128 .. 131", b.x.sheet(1, 4, 128, 1), 396);
        b.due("shorts of bytes", b.x.sheet(1, 4, 50, 256), 50 + 3 * 99);
        b.due("ints 98 ..", b.x.sheet(2, 4, 98, 1), 98 + 3 * 99);
        b.due("ints 1 ..", b.x.sheet(2, 4, 1, -1), 1);
        b.dueTired(1, 0, 0, 0);
        b.due("ints 65536 ..", b.x.sheet(2, 4, 65536, 1), 396);
        b.due("ints that wrap", b.x.sheet(2, 4, Bench.MAX, 1), 99);
        b.dueTired(99, 0, 0, 0);
        b.due("ints that wrap", b.x.sheet(2, 4, Bench.MIN, Bench.MIN), 0);
        b.due("steps that wrap", b.x.sheet(2, 4, 7, 1 << 30), 7 + 99);
        b.dueTired(7, 99, 0, 0);
        b.says(9, "those behind it have 0: the sum of all.");
        b.x.sheet(2, 4, 50, 0);
        b.due("n 3", b.x.sheet(2, 3, 20, 1), 63);
        b.dueTired(20, 21, 22, 0);
        b.due("n 1", b.x.sheet(0, 1, 20, 1), 20);
        b.dueTired(20, 0, 0, 0);
        b.due("n 0", b.x.sheet(1, 0, 20, 1), 0);
        b.dueTired(0, 0, 0, 0);
        b.due("n as RIDERS are", b.x.sheet(2, 4, 20, 1), 86);
        b.due("n 8, RIDERS 4", b.x.sheet(2, 8, 20, 1), 86);
        b.due("TIRED of all", b.x.count(7), 86);
        b.riders("11");
        b.due("none for one that came later", b.x.rider(4, 3), 0);
        b.x = new RockingHorse();
        b.due("without RIDERS", b.x.sheet(2, 8, 20, 1), 0);
        b.anew(8, "11;11;11;11;11;11;11;11");
        b.due("n 8, RIDERS 8", b.x.sheet(2, 8, 20, 1), 188);
    }

    private static void sheetsRefused() {
        b.says(9, "-2: n below 0 (of kinds 0 .. 2; nothing changes);");
        for (int kind = 0; kind <= 2; kind++) {
            int k = kind;
            b.refused("n -1", Bench::rich, x -> x.sheet(k, -1, 5, 5), -2);
            b.refused("n MIN", Bench::rich, x -> x.sheet(k, Bench.MIN, 5, 5), -2);
        }
        b.says(9, "-3: missing (all 0).");
        for (int n : new int[] {0, 8, 4, -1, Bench.MIN}) {
            b.anew(8, Bench.CREW);
            b.x.nights(1);
            b.x.sheet(2, 4, 10, 1);
            b.due("missing, n " + n, b.x.sheet(3, n, 5, 5), -3);
            b.dueTired(0, 0, 0, 0);
            b.due("TIRED of all", b.x.count(7), 0);
            b.due("NIGHT as it was", b.x.count(4), 1);
            b.due("what can be undone as it was", b.x.count(9), 1);
        }
        b.says(9, "NONE: another kind, n above 8 (these first).");
        for (int kind : new int[] {-1, 4, Bench.MIN, Bench.MAX}) {
            b.refused("kind " + kind, Bench::rich, x -> x.sheet(kind, 4, 5, 5), -1);
            b.refused("kind " + kind + ", n -1", Bench::rich, x -> x.sheet(kind, -1, 5, 5), -1);
        }
        for (int kind = 0; kind <= 3; kind++) {
            int k = kind;
            b.refused("n 9 of kind " + kind, Bench::rich, x -> x.sheet(k, 9, 5, 5), -1);
            b.refused("n MAX of kind " + kind, Bench::rich, x -> x.sheet(k, Bench.MAX, 5, 5), -1);
        }
    }
}
