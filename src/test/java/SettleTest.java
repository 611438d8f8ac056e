/** Promises 46 to 52: what a rerun would book, what all ends with, other compounding, plans. Rate 3600: 1 of 1000 a day. */
public final class SettleTest {
    private static final String GROWS = "book days 10 periods 2 compound 1;tier 3600;pay 0 50000;";

    public static void main(String[] args) {
        rights();
        settled();
        settledStepByStep();
        compounded();
        ideal();
        planned();
        plan();
        noBook();
        Check.finish("SettleTest");
    }

    private static void rights() {
        ValueDays x = Check.told("book days 10 periods 3 compound 1;tier 3600;pay 0 50000;close;close;");
        Check.due("nothing to put right", x.rights(), 0);
        Check.due("nothing", x.righted(), 0);
        x.pay(0, 50000);
        // Period 0: 500 more; period 1: 500 more, and 5 by the correction ahead.
        Check.due("rights", x.rights(), 2);
        Check.due("righted", x.righted(), 1005);
        Check.due("wrong 1 by itself", x.wrong(1), 500);
        Check.due("nothing is booked", x.count(5), 4);
        Check.due("rerun", x.rerun(), 2);
        Check.due("the second one", x.entry(5, 1), 505);
        Check.due("its value", x.entry(5, 2), 20);
        Check.due("its page", x.entry(5, 3), 2);
        Check.due("rights then", x.rights(), 0);
        Check.due("righted then", x.righted(), 0);
        x.close();
        Check.due("none open", x.rights(), -2);
        Check.due("none open", x.righted(), Check.NO_SUCH);
        x = Check.told("book days 10 periods 3 compound 1;tier 3600;close;pay 0 100;draw 0 50;");
        Check.due("a half", x.righted(), 1);
        Check.due("none closed", Check.told(GROWS).rights(), 0);
        x = Check.told("book days 10 periods 3 compound 1;tier 3600;close;close;pay 0 1000;draw 10 1010;");
        Check.due("one up, none", x.rights(), 1);
        // Corrections that even out are still two entries.
        x = Check.told("book days 10 periods 3 compound 3;tier 3600;debit 3600 over 3600 limit 0;close;close;pay 0 1000;draw 10 2000;");
        Check.due("one up, one down", x.rights(), 2);
        Check.due("together", x.righted(), 0);
    }

    private static void settled() {
        ValueDays x = Check.told(GROWS);
        Check.due("500 and 505", x.settled(), 51005);
        x.close();
        Check.due("one closed", x.settled(), 51005);
        x.pay(0, 50000);
        Check.due("late", x.settled(), 102010);
        x.close();
        // Booked: 500, and by 100500 on ten days 1005; nothing is put right any more.
        Check.due("all closed", x.settled(), 101505);
        x.change(0, 0, 0);
        Check.due("as they are", x.settled(), 101505);
        Check.due("nothing there", Check.told("book days 10 periods 2 compound 1;tier 3600;").settled(), 0);
        x = Check.told("book days 10 periods 1 compound 1;tier 3600;pay 9 500;");
        Check.due("the only one", x.settled(), 501);
    }

    /** What settled() foretells comes when the acts are done one by one. */
    private static void settledStepByStep() {
        ValueDays x = Check.told("book days 7 periods 5 compound 2;tier 900 to 3000;tier 1700;debit 2100 over 4100 limit 2500;"
            + "pay 0 77777;draw 9 90000;close;draw 3 4567;close;pay 20 66666;rerun;from 11 tier 1 3333;draw 1 1234;");
        long told = x.settled();
        x.close();
        x.close();
        Check.due("ahead of the rerun", x.settled(), told);
        x.rerun();
        x.close();
        Check.due("done", x.settled(), told);
        long sum = 0;
        for (int e = 0; e < x.count(5); e++) {
            sum += x.entry(e, 1);
        }
        Check.due("amounts", sum, told);
    }

    private static void compounded() {
        ValueDays x = Check.told(GROWS);
        Check.due("2", x.compounded(2), -5);
        Check.due("1", x.compounded(1), 0);
        Check.due("4", x.compounded(4), -5);
        Check.due("0", x.compounded(0), Check.NO_SUCH);
        Check.due("5", x.compounded(5), Check.NO_SUCH);
        Check.due("nothing changes", x.count(2), 1);
        Check.due("settled stays", x.settled(), 51005);
        x.close();
        x.close();
        Check.due("none open: done as they came", x.compounded(2), -5);
        Check.due("entry stays", x.entry(1, 2), 10);
        // By K 1 the rerun's first correction counts in period 1 and brings a second one; by K 3 it does not:
        // what is turned back then has another number there.
        String late = "tier 3600;pay 0 1000;close;close;pay 0 50000;draw 10 50000;rerun;";
        x = Check.told("book days 10 periods 3 compound 1;" + late);
        ValueDays y = Check.told("book days 10 periods 3 compound 3;" + late);
        Check.due("entries", x.count(5), 7);
        Check.due("entries by 3", y.count(5), 6);
        Check.due("pay", x.pay(0, 50000), 7);
        Check.due("pay", x.pay(20, 10000), 8);
        Check.due("reverse", x.reverse(7), 9);
        Check.due("pay by 3", y.pay(0, 50000), 6);
        Check.due("pay by 3", y.pay(20, 10000), 7);
        Check.due("reverse by 3", y.reverse(6), 8);
        Check.due("open", x.compounded(3), y.settled() - x.settled());
        Check.due("close", x.close(), y.close());
        // 1000 and 10000; interest by K 1: 10 and 500, 10 and 5, and of 11525 on ten days; by K 3: 510, 10, 110.
        Check.due("settled", x.settled(), 11000 + 510 + 15 + 115);
        Check.due("settled by 3", y.settled(), 11000 + 510 + 10 + 110);
        Check.due("none open", x.compounded(3), -10);
        Check.due("the other way", y.compounded(1), 10);
        Check.due("entries stay", x.count(5), 11);
    }

    private static void ideal() {
        ValueDays x = Check.told(GROWS);
        Check.due("ideal 0", x.ideal(0), 500);
        Check.due("ideal 1", x.ideal(1), 505);
        Check.due("fresh 1", x.fresh(1), 500);
        Check.due("ideal 2", x.ideal(2), Check.NO_SUCH);
        Check.due("ideal -1", x.ideal(-1), Check.NO_SUCH);
        x.close();
        x.pay(0, 50000);
        Check.due("late", x.ideal(1), 1010);
        x.reverse(2);
        Check.due("turned back", x.ideal(1), 505);
        x.reverse(0);
        Check.due("all turned back", x.ideal(0), 0);
        x.undo();
        x.change(0, 0, 1800);
        Check.due("rates as known now", x.ideal(0), 250);
        Check.due("and then", x.ideal(1), 251);
        x = Check.told("book days 10 periods 2 compound 2;tier 3600;pay 0 50000;");
        Check.due("not ahead of its day", x.ideal(1), 500);
    }

    private static void planned() {
        ValueDays x = Check.told(GROWS);
        Check.due("none is", x.planned(0, 1, 0), 51005);
        Check.due("one", x.planned(0, 1, 1000), 52025);
        Check.due("two", x.planned(0, 2, 1000), 53035);
        Check.due("the last day", x.planned(19, 1, 99999), 50000 + 99999 + 500 + 605);
        Check.due("not on days", x.planned(10, 2, 1), Check.NO_SUCH);
        Check.due("on days", x.planned(9, 2, 0), 51005);
        Check.due("n 0", x.planned(0, 0, 1), Check.NO_SUCH);
        Check.due("n 9", x.planned(0, 9, 1), Check.NO_SUCH);
        Check.due("n far", x.planned(0, Integer.MAX_VALUE, 1), Check.NO_SUCH);
        Check.due("day 20", x.planned(20, 1, 1), Check.NO_SUCH);
        Check.due("day -1", x.planned(-1, 1, 1), Check.NO_SUCH);
        Check.due("amount -1", x.planned(0, 1, -1), Check.NO_SUCH);
        Check.due("amount 100000", x.planned(0, 1, 100000), Check.NO_SUCH);
        x.close();
        Check.due("late ones", x.planned(0, 2, 1000), 53035);
        x.close();
        Check.due("none is open", x.planned(0, 1, 0), Check.NO_SUCH);
        Check.due("none is open", x.plan(0, 1), -2);
        x = Check.told("book days 40 periods 8 compound 1;");
        Check.due("eight", x.planned(39, 8, 5), 40);
        Check.due("nine", x.planned(39, 9, 5), Check.NO_SUCH);
    }

    private static void plan() {
        ValueDays x = Check.told("book days 10 periods 2 compound 1;draw 0 1000;");
        Check.due("one", x.plan(0, 1), 1000);
        Check.due("two", x.plan(0, 2), 500);
        Check.due("later", x.plan(19, 1), 1000);
        Check.due("not on days", x.plan(10, 2), -2);
        Check.due("n 0", x.plan(0, 0), -2);
        Check.due("n 9", x.plan(0, 9), -2);
        Check.due("day -1", x.plan(-1, 1), -2);
        Check.due("day 20", x.plan(20, 1), -2);
        x.draw(0, 1);
        Check.due("above 500.5", x.plan(0, 2), 501);
        Check.due("1", Check.told("book days 10 periods 2 compound 1;draw 0 1;").plan(0, 1), 1);
        Check.due("2", Check.told("book days 10 periods 2 compound 1;draw 0 2;").plan(0, 1), 2);
        Check.due("1 of two", Check.told("book days 10 periods 2 compound 1;draw 0 2;").plan(0, 2), 1);
        Check.due("0 is 0", Check.told("book days 10 periods 2 compound 1;draw 0 2;pay 19 2;").plan(0, 2), 0);
        x = Check.told("book days 10 periods 2 compound 1;draw 0 99999;");
        Check.due("at most", x.plan(5, 1), 99999);
        x.draw(0, 1);
        Check.due("above", x.plan(5, 1), -1);
        Check.due("by two", x.plan(5, 2), 50000);
        Check.due("nothing owed", Check.told(GROWS).plan(0, 1), 0);
        // 1000 owed at 1 a day: 10, then 10.1; on day 10 paid: 1010, and nothing then.
        x = Check.told("book days 10 periods 2 compound 1;debit 3600 over 0 limit 5000;draw 0 1000;");
        Check.due("settled", x.settled(), -1020);
        Check.due("at the compounding day", x.plan(10, 1), 1010);
        Check.due("at first", x.plan(0, 1), 1000);
        Check.due("on the last day", x.plan(19, 1), 1019);
        Check.due("right", x.planned(19, 1, 1019), 0);
        Check.due("too little", x.planned(19, 1, 1018), -1);
    }

    private static void noBook() {
        ValueDays x = new ValueDays();
        Check.due("rights", x.rights(), -2);
        Check.due("righted", x.righted(), Check.NO_SUCH);
        Check.due("settled", x.settled(), Check.NO_SUCH);
        Check.due("compounded", x.compounded(1), Check.NO_SUCH);
        Check.due("ideal", x.ideal(0), Check.NO_SUCH);
        Check.due("planned", x.planned(0, 1, 0), Check.NO_SUCH);
        Check.due("plan", x.plan(0, 1), -2);
    }
}
