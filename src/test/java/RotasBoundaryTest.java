import java.io.IOException;
import java.util.function.Supplier;

/** The boundary cases of rotas and their changes (promises 21 to 37), each under its own sentence. */
public final class RotasBoundaryTest {
    private static final Bench b = new Bench();

    public static void main(String[] args) throws IOException {
        easiestOnes();
        fewestRiders();
        bareHours();
        rotasCounted();
        mendedOnes();
        takenOnes();
        missedOnes();
        paidOnes();
        fairestOnes();
        awayOnes();
        ableOnes();
        spentOnes();
        sharedHours();
        thinHours();
        changesTold();
        smoothestOnes();
        meetings();
        b.end(21, 37);
    }

    private static void easiestOnes() {
        b.says(21, "The HELD rota with the least HARD of all HOURS together (of like ones the least row): how much;"
            + " the ROW: RIDERS by HOURS.");
        b.anew(1, "11a;11a");
        b.rule("3");
        b.due("one HOUR", b.x.easiest(), 3, 0);
        b.rule("3-i");
        b.due("the less HARD one", b.x.easiest(), 2, 1);
        b.anew(8, "49abcdefgh;49abcdefgh");
        b.rule("999");
        b.due("the most", b.x.easiest(), 7992, 0, 0, 0, 0, 1, 1, 1, 1);
        b.rule("0");
        b.due("the least", b.x.easiest(), 0, 0, 0, 0, 0, 1, 1, 1, 1);
        b.rule("(h<4)*(i=0)");
        b.due("by HOURS", b.x.easiest(), 0, 1, 1, 1, 1, 0, 0, 0, 0);
        b.anew(8, "11a;11b;11c;11d;11e;11f;11g;11h");
        b.due("8 RIDERS", b.x.easiest(), 26, 0, 1, 2, 3, 4, 5, 6, 7);
        b.says(21, "-2: there is none.");
        b.refused("easiest", Bench::unheld, x -> x.easiest(), -2);
        b.refused("easiest without RIDERS", RockingHorse::new, x -> x.easiest(), -2);
    }

    private static void fewestRiders() {
        b.says(22, "The fewest RIDERS by whom there is a HELD rota: how many; the ROW: they (bits: of as few the"
            + " least).");
        b.anew(2, "11ab;11ab;11ab");
        b.due("of as few the least", b.x.fewest(), 2, 3);
        b.x.ill(0);
        b.due("without the first", b.x.fewest(), 2, 6);
        b.riders("21ab;21ab");
        b.due("one alone", b.x.fewest(), 1, 8);
        b.anew(8, "11a;11b;11c;11d;11e;11f;11g;11h");
        b.due("all eight", b.x.fewest(), 8, 255);
        b.anew(2, "11a;21a;11b;11b");
        b.due("the least set of bits", b.x.fewest(), 2, 5);
        b.anew(2, "11a;11a;11a;21ab;11b");
        b.due("fewer come ahead of less", b.x.fewest(), 1, 8);
        b.says(22, "-2: there is none.");
        b.refused("fewest", Bench::unheld, x -> x.fewest(), -2);
        b.refused("fewest without RIDERS", RockingHorse::new, x -> x.fewest(), -2);
    }

    private static void bareHours() {
        b.says(23, "The fewest HOURS of a NIGHT (bits) that can't all be held together: how many; the ROW: they (of"
            + " as few the least).");
        b.x = new RockingHorse();
        b.due("without RIDERS", b.x.bare(), 1, 1);
        b.anew(8, "41abcd;31efg");
        b.due("the last HOUR alone", b.x.bare(), 1, 128);
        b.anew(8, "41abcdefgh;31abcdefgh");
        b.due("all eight", b.x.bare(), 8, 255);
        b.anew(3, "11abc");
        b.due("two of three", b.x.bare(), 2, 3);
        b.anew(4, "11ab;11cd;11bcd");
        b.due("all four by three", b.x.bare(), 4, 15);
        b.anew(4, "11a;11a;11bcd;11b");
        b.due("the least of two sets", b.x.bare(), 2, 12);
        b.says(23, "-2: all can.");
        Supplier<RockingHorse> held = () -> {
            RockingHorse x = Bench.made(3, "11c;21ab;19h");
            x.shared(0, 1);
            Bench.put(x, "w");
            return x;
        };
        b.refused("bare", held, x -> x.bare(), -2);
    }

    private static void rotasCounted() {
        b.says(24, "How many HELD rotas there are; the ROW: the first (the least row; nothing without).");
        b.x = Bench.unheld();
        b.due("none", b.x.rotas(), 0);
        b.dueRow("none");
        b.anew(1, "11;11a");
        b.due("one", b.x.rotas(), 1, 1);
        String lines = "41abcdefgh;41abcdefgh;41abcdefgh;41abcdefgh";
        b.anew(8, lines);
        b.riders(lines);
        // 8 to the 8th, without those in which one has 5 or more of the 8 HOURS.
        int most = 16777216 - 8 * (56 * 343 + 28 * 49 + 8 * 7 + 1);
        b.due("the most there are", b.x.rotas(), most, 0, 0, 0, 0, 1, 1, 1, 1);
        b.anew(8, "11abcdefgh;11abcdefgh;11abcdefgh;11abcdefgh");
        b.riders("11abcdefgh;11abcdefgh;11abcdefgh;11abcdefgh");
        b.due("each one once", b.x.rotas(), 40320, 0, 1, 2, 3, 4, 5, 6, 7);
    }

    private static void mendedOnes() {
        b.says(25, "HELD rotas that differ from THE ROTA at the fewest HOURS, a RIDER not being there: at how many;"
            + " the ROW: RIDERS by HOURS of the one of these with the least row.");
        b.anew(3, "31abc;31abc;31abc");
        b.rota("010");
        b.x.give(5, 0);
        b.due("its own HOURS alone", b.x.mended(0), 2, 1, 1, 1);
        b.due("none of its", b.x.mended(2), 0, 0, 1, 0);
        b.due("one HOUR", b.x.mended(1), 1, 0, 0, 0);
        b.x.ill(1);
        b.due("one ILL besides", b.x.mended(0), 3, 2, 2, 2);
        b.rota("---");
        b.due("nobody's differ all", b.x.mended(1), 3, 0, 0, 0);
        b.anew(2, "11ab;11ab;11ab");
        b.rota("10");
        b.due("not there, not in it", b.x.mended(2), 0, 1, 0);
        b.x = Bench.full();
        b.due("8 RIDERS, 8 HOURS", b.x.mended(7), 3, 0, 0, 0, 3, 4, 5, 6, 2);
        b.says(25, "-2: there is none; NONE: none such.");
        b.refused("mended(0) of none", Bench::unheld, x -> x.mended(0), -2);
        b.refused("mended(1) of none", Bench::unheld, x -> x.mended(1), -2);
        b.refused("mended(3) comes first", Bench::unheld, x -> x.mended(3), -1);
        for (int rider : new int[] {-1, 4, Bench.MIN, Bench.MAX}) {
            b.refused("mended(" + rider + ")", Bench::rich, x -> x.mended(rider), -1);
        }
        b.anew(1, "11a");
        b.rota("0");
        b.due("none without it", b.x.mended(0), -2);
    }

    private static void takenOnes() {
        b.says(26, "THE ROTA becomes that of easiest() (it can be undone, as rota(); HOURS behind the NIGHT as they"
            + " are): how many HOURS of it changed.");
        b.anew(3, "31abc;31abc");
        b.x.give(2, 0);
        b.x.give(3, 1);
        b.x.give(7, 1);
        b.due("two HOURS", b.x.takes(), 2);
        b.dueRota("0001---1");
        b.due("none", b.x.takes(), 0);
        b.due("undo the second", b.x.undo(), 4);
        b.due("undo the first", b.x.undo(), 3);
        b.dueRota("--01---1");
        b.anew(8, "41abcd;41efgh");
        b.due("all eight", b.x.takes(), 8);
        b.dueRota("00001111");
        b.says(26, "-2: there is none.");
        b.refused("takes", Bench::unheld, x -> x.takes(), -2);
        b.refused("takes without RIDERS", RockingHorse::new, x -> x.takes(), -2);
    }

    private static void missedOnes() {
        b.says(27, "How much more HARD easiest() would be, were a RIDER not there: how much.");
        b.anew(1, "11a;12a;19");
        b.due("the easier one", b.x.missed(0), 1);
        b.due("one who rides none", b.x.missed(1), 0);
        b.due("one who can none", b.x.missed(2), 0);
        b.x.ill(1);
        b.due("one who is ILL", b.x.missed(1), 0);
        b.rule("999*i");
        b.x.ill(1);
        b.due("the most of an HOUR", b.x.missed(0), 999);
        b.says(27, "-2: there is none then, or none now; NONE: none such.");
        b.x.ill(1);
        b.due("none then", b.x.missed(0), -2);
        for (int r = 0; r < 3; r++) {
            int rider = r;
            b.refused("none now", Bench::unheld, x -> x.missed(rider), -2);
        }
        for (int rider : new int[] {-1, 4, Bench.MIN, Bench.MAX}) {
            b.refused("missed(" + rider + ")", Bench::rich, x -> x.missed(rider), -1);
            b.refused("missed(" + rider + ") of none", Bench::unheld, x -> x.missed(rider), -1);
        }
    }

    private static void paidOnes() {
        b.says(28, "HARD of easiest() without it, less HARD of the others in easiest(): how much; the ROW: its own"
            + " HARD in easiest(), HARD of the others in it.");
        b.anew(2, "11a;12ab;19b");
        b.due("paid(0)", b.x.paid(0), 11 - 2, 1, 2);
        b.due("paid(1)", b.x.paid(1), 10 - 1, 2, 1);
        b.due("paid(2)", b.x.paid(2), 3 - 3, 0, 3);
        b.x.ill(2);
        b.due("an ILL one", b.x.paid(2), 0, 0, 3);
        b.says(28, "-2: as missed(); NONE: none such.");
        b.x.thin();
        b.due("none then", b.x.paid(0), -2, 1);
        for (int r = 0; r < 3; r++) {
            int rider = r;
            b.refused("none now", Bench::unheld, x -> x.paid(rider), -2);
        }
        for (int rider : new int[] {-1, 4, Bench.MIN, Bench.MAX}) {
            b.refused("paid(" + rider + ")", Bench::rich, x -> x.paid(rider), -1);
            b.refused("paid(" + rider + ") of none", Bench::unheld, x -> x.paid(rider), -1);
        }
    }

    private static void fairestOnes() {
        b.says(29, "The least v so that there is a HELD rota in which nobody has more than v HARD together: it; the"
            + " ROW: the least HARD of all HOURS in such a rota.");
        b.anew(2, "21ab;13ab");
        b.due("2 for the one, or 3 for the other", b.x.fairest(), 2, 2);
        b.rule("w");
        b.x.set(0, 1);
        b.due("one HOUR", b.x.fairest(), 1, 1);
        b.anew(3, "31abc;12abc");
        // 0 has all three: 3 of 3; 1 has one: 2 and 2 of 4.
        b.due("more together for less of one", b.x.fairest(), 2, 4);
        b.rule("0");
        b.due("0", b.x.fairest(), 0, 0);
        b.anew(4, "41abcd");
        b.rule("999");
        b.due("the most", b.x.fairest(), 3996, 3996);
        b.anew(2, "19a;11b");
        b.due("the first has the most", b.x.fairest(), 9, 10);
        b.anew(2, "11a;19b");
        b.due("the last has the most", b.x.fairest(), 9, 10);
        b.anew(8, "18a;17b;16c;15d;14e;13f;12g;11h");
        b.due("8 RIDERS, 8 HOURS", b.x.fairest(), 11, 36 + 18);
        b.says(29, "-2: there is none.");
        b.refused("fairest", Bench::unheld, x -> x.fairest(), -2);
        b.refused("fairest without RIDERS", RockingHorse::new, x -> x.fairest(), -2);
    }

    private static void awayOnes() {
        b.says(30, "The most RIDERS that can be away, ILL ones besides, so that there is a HELD rota yet: how many;"
            + " the ROW: they (bits: of as many the least).");
        b.anew(1, "11a;11a;11a");
        b.due("of as many the least", b.x.away(), 2, 3);
        b.x.ill(2);
        b.due("ILL ones besides", b.x.away(), 1, 1);
        b.x.ill(0);
        b.due("none", b.x.away(), 0, 0);
        b.anew(1, "11a;11;11;11;11;11;11;11");
        b.due("those who can none", b.x.away(), 7, 254);
        b.anew(8, "11a;11b;11c;11d;11e;11f;11g;11h");
        b.due("all are due", b.x.away(), 0, 0);
        b.anew(2, "21ab;11a;11b;21ab");
        b.due("more come ahead of less", b.x.away(), 3, 7);
        b.says(30, "-2: there is none even so.");
        b.refused("away", Bench::unheld, x -> x.away(), -2);
        b.refused("away without RIDERS", RockingHorse::new, x -> x.away(), -2);
    }

    private static void ableOnes() {
        b.says(31, "RIDERS who are not ILL and CAN an HOUR (0 .. 7), the one for whom it is the least HARD first (of"
            + " like ones the first): how many; the ROW: they.");
        b.anew(1, "19ah;13a;13ah;11b;11ah");
        b.due("HOUR 0", b.x.able(0), 4, 4, 1, 2, 0);
        b.due("HOUR 7", b.x.able(7), 3, 4, 2, 0);
        b.x.ill(4);
        b.due("an ILL one", b.x.able(0), 3, 1, 2, 0);
        b.due("none", b.x.able(6), 0);
        b.dueRow("none");
        b.rule("999");
        b.due("like ones, the most HARD", b.x.able(0), 3, 0, 1, 2);
        b.rule("0");
        b.due("like ones, the least HARD", b.x.able(0), 3, 0, 1, 2);
        b.anew(8, "18h;17h;16h;15h;14h;13h;12h;11h");
        b.due("all eight", b.x.able(7), 8, 7, 6, 5, 4, 3, 2, 1, 0);
        b.says(31, "NONE: another HOUR.");
        for (int hour : new int[] {-1, 8, Bench.MIN, Bench.MAX}) {
            b.refused("able(" + hour + ")", Bench::rich, x -> x.able(hour), -1);
        }
    }

    private static void spentOnes() {
        b.says(32, "RIDERS (bits) for whom some HOUR that they CAN is more HARD than v (0 .. 999); the ROW: how many,"
            + " the most HARD of all such HOURS of all (0 without).");
        b.x = new RockingHorse();
        b.due("without RIDERS", b.x.spent(0), 0, 0, 0);
        b.anew(1, "11ah;12bc;19");
        b.rule("h*10");
        b.due("spent(0)", b.x.spent(0), 3, 2, 70);
        b.due("spent(19)", b.x.spent(19), 3, 2, 70);
        b.due("spent(20)", b.x.spent(20), 1, 1, 70);
        b.due("spent(69)", b.x.spent(69), 1, 1, 70);
        b.due("spent(70)", b.x.spent(70), 0, 0, 0);
        b.x.ill(0);
        b.due("ILL ones, too", b.x.spent(69), 1, 1, 70);
        b.rule("999");
        b.due("spent(998)", b.x.spent(998), 3, 2, 999);
        b.due("spent(999)", b.x.spent(999), 0, 0, 0);
        b.rule("0");
        b.due("not more than 0", b.x.spent(0), 0, 0, 0);
        b.rule("70-h");
        b.due("HOUR 0 is the most HARD", b.x.spent(69), 1, 1, 70);
        b.due("HOUR 1 next", b.x.spent(68), 3, 2, 70);
        b.anew(1, "11a;12b;13c;14d;15e;16f;17g;18h");
        b.due("all eight", b.x.spent(0), 255, 8, 27 - 10);
        b.due("the last one", b.x.spent(16), 128, 1, 17);
        b.says(32, "NONE: another v.");
        for (int v : new int[] {-1, 1000, Bench.MIN, Bench.MAX}) {
            b.refused("spent(" + v + ")", Bench::rich, x -> x.spent(v), -1);
        }
    }

    private static void sharedHours() {
        b.says(33, "HOURS (bits) that both of two RIDERS CAN; the ROW: those that neither CAN (of all 8).");
        b.anew(1, "11abc;12cde;13;14abcdefgh");
        b.due("shared(0, 1)", b.x.shared(0, 1), 4, 224);
        b.due("shared(1, 0)", b.x.shared(1, 0), 4, 224);
        b.due("shared(0, 2)", b.x.shared(0, 2), 0, 248);
        b.due("shared(3, 0)", b.x.shared(3, 0), 7, 0);
        b.riders("11");
        b.due("shared(2, 4)", b.x.shared(2, 4), 0, 255);
        b.says(33, "NONE: none such, like ones.");
        int[][] others = {{0, 0}, {3, 3}, {0, 4}, {4, 0}, {-1, 0}, {0, -1}, {-1, -1}, {4, 4}, {Bench.MIN, 0},
            {0, Bench.MAX}, {Bench.MAX, Bench.MIN}};
        for (int[] other : others) {
            b.refused("shared(" + other[0] + ", " + other[1] + ")", Bench::rich, x -> x.shared(other[0], other[1]), -1);
        }
    }

    private static void thinHours() {
        b.says(34, "The HOUR of a NIGHT that the fewest RIDERS who are not ILL CAN: of equal ones the first: it; the"
            + " ROW: how many CAN it.");
        b.x = new RockingHorse();
        b.due("without RIDERS", b.x.thin(), 0, 0);
        b.anew(3, "11abcdefgh;11ac;11b");
        b.due("of equal ones the first", b.x.thin(), 0, 2);
        b.x.ill(1);
        b.due("who are not ILL", b.x.thin(), 0, 1);
        b.x.ill(2);
        b.x.ill(1);
        b.due("one is the fewest", b.x.thin(), 1, 1);
        b.x.set(0, 4);
        b.due("the first of those with one", b.x.thin(), 1, 1);
        b.x.set(0, 1);
        b.due("of the NIGHT alone", b.x.thin(), 0, 2);
        b.anew(8, "11abcdefg;11abcdefg");
        b.due("the last HOUR", b.x.thin(), 7, 0);
        b.x.set(0, 7);
        b.due("all alike", b.x.thin(), 0, 2);
        b.anew(2, "11ab;11ab;11ab;11ab;11ab;11ab;11ab;11ab");
        b.due("all eight can", b.x.thin(), 0, 8);
        b.x.ill(7);
        b.due("seven can", b.x.thin(), 0, 7);
    }

    private static void changesTold() {
        b.says(35, "In THE ROTA, as it is told: how many times somebody hands on to another one from one HOUR to the"
            + " next; the ROW: how many of these by more than BEATS, their differences in WIDTH together.");
        b.anew(8, "11;15;19;15");
        b.due("nobody's", b.x.changes(), 0, 0, 0);
        b.rota("00000000");
        b.due("the same one", b.x.changes(), 0, 0, 0);
        b.rota("0-1-2-0-");
        b.due("nobody between", b.x.changes(), 0, 0, 0);
        b.rota("01010101");
        b.due("seven by 4", b.x.changes(), 7, 0, 28);
        b.x.set(1, 3);
        b.due("by more than 3 BEATS", b.x.changes(), 7, 7, 28);
        b.rota("13------");
        b.due("like WIDTHS", b.x.changes(), 1, 0, 0);
        b.x.set(1, 0);
        b.due("like WIDTHS, 0 BEATS", b.x.changes(), 1, 0, 0);
        b.rota("------02");
        b.due("the last two", b.x.changes(), 1, 1, 8);
        b.x.ill(0);
        b.due("CAN and ILL aside", b.x.changes(), 1, 1, 8);
        b.x.set(1, 8);
        b.due("8 by 8 BEATS", b.x.changes(), 1, 0, 8);
        b.x.set(1, 7);
        b.due("8 by 7 BEATS", b.x.changes(), 1, 1, 8);
    }

    private static void smoothestOnes() {
        b.says(36, "The HELD rota with the least differences in WIDTH from HOUR to HOUR together (of like ones the"
            + " least row): how much; the ROW: RIDERS by HOURS.");
        b.anew(1, "19a;11a");
        b.due("one HOUR", b.x.smoothest(), 0, 0);
        b.anew(2, "11a;15a;19b;14b");
        b.due("the closest two", b.x.smoothest(), 1, 1, 3);
        b.anew(2, "19a;15b;11b");
        b.due("the closer one", b.x.smoothest(), 4, 0, 1);
        b.anew(8, "19aceg;11bdfh;49aceg;41bdfh");
        b.due("the most there is", b.x.smoothest(), 56, 0, 1, 2, 3, 2, 3, 2, 3);
        b.anew(3, "21abc;13abc;12abc");
        b.due("of like ones the least row", b.x.smoothest(), 1, 0, 0, 2);
        b.says(36, "-2: there is none.");
        b.refused("smoothest", Bench::unheld, x -> x.smoothest(), -2);
        b.refused("smoothest without RIDERS", RockingHorse::new, x -> x.smoothest(), -2);
    }

    private static void meetings() {
        b.says(37, "The stride s (1 .. 999) at which two RIDERS are in the same country, WIDTH times s and its"
            + " number, by p (2 .. 40; rest): the first: it; the ROW: the country, how many such strides there are.");
        b.anew(1, "12;11;11;19;11;11;11;11");
        b.due("odd strides up to 999", b.x.meets(0, 1, 2), 1, 0, 500);
        b.due("even strides from 2 on", b.x.meets(0, 2, 2), 2, 0, 499);
        b.due("the other first", b.x.meets(1, 0, 2), 1, 0, 500);
        // 2s = s + 1 by 40: s is 1, 41, .., 961.
        b.due("p 40", b.x.meets(0, 1, 40), 1, 2, 25);
        // 9s + 3 = s + 7 by 40: 8s = 4 never; by 36: 8s = 4: never but by 9s; by 4 always.
        b.due("p 4", b.x.meets(3, 7, 4), 1, 0, 999);
        // 2s = s + 7 by 9: s is 7, 16, .., 997.
        b.due("p 9", b.x.meets(0, 7, 9), 7, 5, 111);
        // 2s = s + 2 by 13: s is 2, 15, .., 990.
        b.due("p 13", b.x.meets(2, 0, 13), 2, 4, 77);
        b.says(37, "-2: none; NONE: others, like ones.");
        b.x.thin();
        b.due("p 40, never", b.x.meets(3, 7, 40), -2, 0);
        b.due("like WIDTHS, p 40", b.x.meets(1, 2, 40), -2, 0);
        b.due("like WIDTHS, p 2, even", b.x.meets(1, 4, 2), -2, 0);
        b.due("like WIDTHS, p 3", b.x.meets(1, 4, 3), 1, 2, 999);
        int[][] others = {{0, 1, 1}, {0, 1, 41}, {0, 1, 0}, {0, 1, -2}, {0, 0, 5}, {3, 3, 5}, {0, 4, 5}, {4, 0, 5},
            {-1, 0, 5}, {0, -1, 5}, {0, 1, Bench.MIN}, {0, 1, Bench.MAX}, {Bench.MIN, 1, 5}, {0, Bench.MAX, 5}};
        for (int[] o : others) {
            b.refused("meets(" + o[0] + ", " + o[1] + ", " + o[2] + ")", Bench::rich,
                x -> x.meets(o[0], o[1], o[2]), -1);
        }
    }
}
