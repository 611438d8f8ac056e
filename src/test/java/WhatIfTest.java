/** Promises 27 to 34, 37, 39, 40, 44: what would be. Rate 3600: 1 of 1000 a day. */
public final class WhatIfTest {
    private static final String TEXT = "book days 10 periods 2 compound 1;tier 3600;pay 0 1000;pay 5 2000;";

    public static void main(String[] args) {
        entries();
        bestDays();
        lateEntries();
        tilts();
        limits();
        needs();
        caused();
        noBook();
        Check.finish("WhatIfTest");
    }

    private static void entries() {
        ValueDays x = Check.told(TEXT);
        Check.due("all", x.all(), 50);
        Check.due("brought 0", x.brought(0), 20);
        Check.due("brought 1", x.brought(1), 30);
        Check.due("brought 2", x.brought(2), Check.NO_SUCH);
        Check.due("brought -1", x.brought(-1), Check.NO_SUCH);
        Check.due("moved 1, 0", x.moved(1, 0), 10);
        Check.due("moved 1, 5", x.moved(1, 5), 0);
        Check.due("moved 1, 19", x.moved(1, 19), -28);
        Check.due("moved 0, 10", x.moved(0, 10), -10);
        Check.due("moved 0, 20", x.moved(0, 20), Check.NO_SUCH);
        Check.due("moved 0, -1", x.moved(0, -1), Check.NO_SUCH);
        Check.due("moved 2, 0", x.moved(2, 0), Check.NO_SUCH);
        Check.due("moved -1, 0", x.moved(-1, 0), Check.NO_SUCH);
        Check.due("nothing moved", x.all(), 50);
        // Interest is reckoned by what is booked: other entries stay as they are.
        x = Check.told("book days 10 periods 2 compound 1;tier 3600;pay 0 50000;close;");
        Check.due("all", x.all(), 1005);
        Check.due("brought without its interest", x.brought(0), 1000);
        Check.due("brought by interest", x.brought(1), 5);
        Check.due("interest moved", x.moved(1, 0), 5);
        // An entry behind the last day counts for none, and can be moved onto one.
        x = Check.told("book days 10 periods 2 compound 2;tier 3600;pay 0 50000;close;");
        Check.due("behind all", x.brought(1), 0);
        Check.due("onto a day", x.moved(1, 10), 5);
        Check.due("best", x.bestDay(1), 0);
    }

    private static void bestDays() {
        ValueDays x = Check.told(TEXT);
        Check.due("paid", x.bestDay(0), 0);
        Check.due("paid", x.bestDay(1), 0);
        Check.due("none", x.bestDay(2), -2);
        Check.due("-1", x.bestDay(-1), -2);
        x.draw(5, 1000);
        // 1 a day is lost from its day on.
        Check.due("drawn", x.bestDay(2), 19);
        x = Check.told("book days 10 periods 2 compound 1;pay 7 1000;");
        Check.due("without rates all are alike", x.bestDay(0), 0);
        // Only on days 12 .. 14 there is a rate.
        x = Check.told("book days 10 periods 2 compound 1;tier 0;from 12 tier 0 3600;from 15 tier 0 0;pay 0 9000;draw 13 5000;");
        Check.due("first by which nothing is lost", x.bestDay(1), 15);
        Check.due("first of all ahead", x.bestDay(0), 0);
        // What is owed costs on days 3 .. 6 alone: paid by day 3 nothing is, drawn behind day 6 nothing is.
        x = Check.told("book days 5 periods 2 compound 1;from 3 over 5000;from 7 over 0;draw 5 9000;pay 8 9000;");
        Check.due("drawn", x.bestDay(0), 7);
        Check.due("paid", x.bestDay(1), 0);
        // The interest of each period is rounded by itself: 0.49 of one day is none.
        x = Check.told("book days 10 periods 2 compound 1;tier 3600;pay 9 490;pay 19 490;");
        Check.due("all days", x.bestDay(0), 0);
        Check.due("0.98 of two days", x.moved(0, 8), 1);
        Check.due("0.49 less", x.moved(0, 10), 0);
        // Drawn on the last day it costs 0.49, which is rounded away.
        x = Check.told("book days 10 periods 1 compound 1;tier 3600;pay 0 1000;draw 0 490;");
        Check.due("the last day", x.bestDay(1), 9);
    }

    private static void lateEntries() {
        ValueDays x = Check.told(TEXT + "close;");
        Check.due("late 0, 1000", x.late(0, 1000), 10);
        Check.due("late 0, -1000", x.late(0, -1000), -10);
        Check.due("late 9, 99999", x.late(9, 99999), 100);
        Check.due("late 10, 99999", x.late(10, 99999), 0);
        Check.due("late 0, 0", x.late(0, 0), 0);
        Check.due("late 0, 100000", x.late(0, 100000), Check.NO_SUCH);
        Check.due("late 0, -100000", x.late(0, -100000), Check.NO_SUCH);
        Check.due("late 20, 1", x.late(20, 1), Check.NO_SUCH);
        Check.due("late -1, 1", x.late(-1, 1), Check.NO_SUCH);
        Check.due("touched 0, 1000", x.touched(0, 1000), 0);
        Check.due("touched 0, 49", x.touched(0, 49), -1);
        Check.due("touched 0, 50", x.touched(0, 50), 0);
        Check.due("touched 10, 1000", x.touched(10, 1000), -1);
        Check.due("touched 0, 0", x.touched(0, 0), -1);
        Check.due("touched 0, 100000", x.touched(0, 100000), -2);
        Check.due("touched 0, -100000", x.touched(0, -100000), -2);
        Check.due("touched 20, 1", x.touched(20, 1), -2);
        Check.due("touched -1, 1", x.touched(-1, 1), -2);
        x.pay(0, 2000);
        Check.due("what is wrong already", x.late(0, 0), 20);
        Check.due("with it", x.late(0, 1000), 30);
        Check.due("put right again", x.late(0, -2000), 0);
        Check.due("touched", x.touched(0, -2000), 0);
        x.close();
        Check.due("none is open", x.late(10, 1000), 30);
        Check.due("the second", x.touched(10, 1000), 1);
    }

    private static void tilts() {
        ValueDays x = Check.told(TEXT);
        Check.due("tilted 0, 3600", x.tilted(0, 3600), 50);
        Check.due("tilted 0, 0", x.tilted(0, 0), 0);
        Check.due("tilted 0, -1800", x.tilted(0, -1800), -25);
        Check.due("0 at least", x.tilted(0, -5000), -50);
        Check.due("tilted 0, 5001", x.tilted(0, 5001), Check.NO_SUCH);
        Check.due("tilted 0, -5001", x.tilted(0, -5001), Check.NO_SUCH);
        Check.due("tilted 1, 0", x.tilted(1, 0), Check.NO_SUCH);
        Check.due("tilted -1, 0", x.tilted(-1, 0), Check.NO_SUCH);
        Check.due("20 and 29.5 more", x.tiltFor(0, 50), 3540);
        Check.due("0.5 of 30 first", x.tiltFor(0, 1), 60);
        Check.due("5000", x.tiltFor(0, 70), 4980);
        Check.due("above 5000", x.tiltFor(0, 71), -1);
        Check.due("n 0", x.tiltFor(0, 0), -2);
        Check.due("n 99999", x.tiltFor(0, 99999), -1);
        Check.due("n 100000", x.tiltFor(0, 100000), -2);
        Check.due("no tier", x.tiltFor(1, 1), -2);
        Check.due("tier -1", x.tiltFor(-1, 1), -2);
        // Each day's rate is 0 at least by itself, and others tiers stay.
        x = Check.told("book days 10 periods 1 compound 1;tier 3600 to 1000;tier 1800;from 5 tier 1 3600;pay 0 3000;");
        Check.due("all", x.all(), 10 + 5 + 10);
        Check.due("less 2700", x.tilted(1, -2700), 0 - 5 - 7);
        Check.due("tier 0", x.tilted(0, -3600), -10);
        Check.due("26.5 of 2000 in ten days", x.tiltFor(1, 27), 4770);
    }

    private static void limits() {
        ValueDays x = Check.told("book days 10 periods 1 compound 1;debit 1800 over 3600 limit 1000;draw 0 2000;");
        Check.due("all", x.all(), -15);
        Check.due("limited 2000", x.limited(2000), 5);
        Check.due("limited 99999", x.limited(99999), 5);
        Check.due("limited 1000", x.limited(1000), 0);
        Check.due("limited 0", x.limited(0), -5);
        Check.due("limited -1", x.limited(-1), Check.NO_SUCH);
        Check.due("limited 100000", x.limited(100000), Check.NO_SUCH);
        x.change(5, 6, 0);
        Check.due("on all days", x.limited(2000), 8);
        x = Check.told("book days 10 periods 1 compound 1;debit 1800 over 3600 limit 0;draw 0 100;");
        Check.due("-0.5 for -1", x.limited(100), 0);
        x = Check.told("book days 10 periods 1 compound 1;debit 1800 over 3600 limit 0;draw 0 99;");
        Check.due("-0.495 for -0.99", x.limited(99), 1);
        x = Check.told("book days 10 periods 1 compound 1;tier 3600;pay 0 2000;");
        Check.due("what is paid stays", x.limited(0), 0);
    }

    private static void needs() {
        ValueDays x = Check.told(TEXT);
        Check.due("needs 0, 1", x.needs(0, 1), 50);
        Check.due("needs 0, 2", x.needs(0, 2), 50);
        Check.due("needs 0, 3", x.needs(0, 3), 150);
        Check.due("needs 19, 1", x.needs(19, 1), 500);
        Check.due("needs 19, 100", x.needs(19, 100), 99500);
        Check.due("needs 19, 101", x.needs(19, 101), -1);
        Check.due("needs 0, 99999", x.needs(0, 99999), -1);
        Check.due("needs 0, 0", x.needs(0, 0), -2);
        Check.due("needs 0, 100000", x.needs(0, 100000), -2);
        Check.due("needs 20, 1", x.needs(20, 1), -2);
        Check.due("needs -1, 1", x.needs(-1, 1), -2);
        x = Check.told("book days 10 periods 1 compound 1;tier 3600;pay 0 49;");
        Check.due("1 is enough", x.needs(0, 1), 1);
        Check.due("2 is not", x.needs(0, 2), 101);
        x = Check.told("book days 10 periods 1 compound 1;tier 1799;pay 0 100;");
        Check.due("a rate of 1 more", x.tiltFor(0, 1), 1);
        x = Check.told("book days 10 periods 1 compound 1;tier 5000;pay 0 1;");
        Check.due("all but the last", x.needs(0, 1389), 99971);
        x = Check.told("book days 2 periods 1 compound 1;tier 18;");
        Check.due("not quite a half by the last", x.needs(1, 1), -1);
        x = Check.told("book days 10 periods 1 compound 1;debit 3600 over 3600 limit 0;draw 0 1000;");
        Check.due("what is owed falls away", x.needs(0, 10), 951);
        Check.due("no more than that", x.needs(0, 11), -1);
    }

    private static void caused() {
        ValueDays x = Check.told(TEXT + "close;draw 12 500;");
        // Period 0: 20; period 1: 3020 on days 10, 11, 2520 on 8 more: 26.2.
        Check.due("fresh 1", x.fresh(1), 26);
        Check.due("caused 0, 0", x.caused(0, 0), 10);
        Check.due("caused 1, 0", x.caused(1, 0), 10);
        Check.due("caused 2, 0", x.caused(2, 0), 0);
        Check.due("caused 0, 1", x.caused(0, 1), 10);
        Check.due("caused 1, 1", x.caused(1, 1), 20);
        Check.due("caused 2, 1", x.caused(2, 1), 0);
        Check.due("caused 3, 1", x.caused(3, 1), -4);
        Check.due("caused 4, 1", x.caused(4, 1), Check.NO_SUCH);
        Check.due("caused -1, 1", x.caused(-1, 1), Check.NO_SUCH);
        Check.due("caused 0, 2", x.caused(0, 2), Check.NO_SUCH);
        Check.due("caused 0, -1", x.caused(0, -1), Check.NO_SUCH);
        Check.due("the first of several", x.blame(0), 0);
        Check.due("blame 1", x.blame(1), 1);
        x.draw(10, 20000);
        // Owed without rates: what the drawn one caused is all that there was.
        Check.due("without sign", x.blame(1), 4);
        Check.due("below 0", x.caused(4, 1), -26);
        Check.due("blame 2", x.blame(2), -2);
        Check.due("blame -1", x.blame(-1), -2);
        Check.due("all are 0", Check.told("book days 10 periods 2 compound 1;pay 0 5;").blame(0), -1);
        Check.due("no entries", Check.told("book days 10 periods 2 compound 1;").blame(1), -1);
    }

    private static void noBook() {
        ValueDays x = new ValueDays();
        Check.due("all", x.all(), Check.NO_SUCH);
        Check.due("brought", x.brought(0), Check.NO_SUCH);
        Check.due("moved", x.moved(0, 0), Check.NO_SUCH);
        Check.due("bestDay", x.bestDay(0), -2);
        Check.due("late", x.late(0, 0), Check.NO_SUCH);
        Check.due("touched", x.touched(0, 0), -2);
        Check.due("tilted", x.tilted(0, 0), Check.NO_SUCH);
        Check.due("limited", x.limited(0), Check.NO_SUCH);
        Check.due("needs", x.needs(0, 1), -2);
        Check.due("caused", x.caused(0, 0), Check.NO_SUCH);
        Check.due("blame", x.blame(0), -2);
        Check.due("tiltFor", x.tiltFor(0, 1), -2);
    }
}
