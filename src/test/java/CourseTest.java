/** Promises 21 to 25, 35, 36, 42, 43: the balance over all days, its limit. */
public final class CourseTest {
    private static final String OWED = "book days 4 periods 2 compound 1;debit 1000 over 2000 limit 300;draw 0 500;pay 2 300;";

    public static void main(String[] args) {
        steps();
        limits();
        room();
        reaches();
        noBook();
        Check.finish("CourseTest");
    }

    private static void steps() {
        ValueDays x = Check.told("book days 5 periods 2 compound 1;pay 0 10;pay 3 5;pay 5 1;draw 5 1;draw 9 20;");
        Check.due("steps", x.steps(), 2);
        Check.due("step 0", x.step(0), 3);
        Check.due("step 1", x.step(1), 9);
        Check.due("step 2", x.step(2), -1);
        Check.due("step -1", x.step(-1), -2);
        Check.due("lowest", x.lowest(), -5);
        Check.due("lowest of pays", Check.told("book days 5 periods 2 compound 1;pay 0 10;pay 9 5;").lowest(), 10);
        Check.due("lowest of 0", Check.told("book days 5 periods 2 compound 1;pay 3 10;").lowest(), 0);
        // Interest that counts from a compounding day on is a step.
        x = Check.told("book days 10 periods 2 compound 1;tier 3600;pay 0 1000;close;");
        Check.due("steps by interest", x.steps(), 1);
        Check.due("its day", x.step(0), 10);
        x = Check.told("book days 10 periods 2 compound 2;tier 3600;pay 0 1000;close;");
        Check.due("interest behind the last day", x.steps(), 0);
    }

    private static void limits() {
        ValueDays x = Check.told(OWED);
        Check.due("beyond", x.beyond(), 2);
        Check.due("firstBeyond", x.firstBeyond(), 0);
        Check.due("lowest", x.lowest(), -500);
        Check.due("limitFor", x.limitFor(), 500);
        x.change(1, 6, 500);
        Check.due("beyond with a change", x.beyond(), 1);
        x.change(0, 6, 500);
        Check.due("owed as much as the limit", x.beyond(), 0);
        Check.due("none beyond", x.firstBeyond(), -1);
        x.change(5, 6, 199);
        Check.due("beyond behind a change", x.beyond(), 3);
        Check.due("firstBeyond", x.firstBeyond(), 5);
        Check.due("limitFor stays", x.limitFor(), 500);
        x = Check.told("book days 4 periods 2 compound 1;draw 7 99999;");
        Check.due("limitFor at most", x.limitFor(), 99999);
        x.draw(7, 1);
        Check.due("limitFor above", x.limitFor(), -1);
        x = Check.told("book days 4 periods 2 compound 1;pay 1 5;");
        Check.due("limitFor 0", x.limitFor(), 0);
    }

    private static void room() {
        ValueDays x = Check.told(OWED);
        Check.due("most 0", x.most(0), -1);
        Check.due("most 1", x.most(1), -1);
        Check.due("most 2", x.most(2), 100);
        Check.due("most 7", x.most(7), 100);
        Check.due("most 8", x.most(8), -2);
        Check.due("most -1", x.most(-1), -2);
        Check.due("least 0", x.least(0), 200);
        Check.due("least 2", x.least(2), 0);
        Check.due("least 8", x.least(8), -2);
        Check.due("least -1", x.least(-1), -2);
        x.draw(7, 100);
        Check.due("no more", x.most(2), 0);
        Check.due("nothing to pay", x.least(2), 0);
        x.change(5, 6, 150);
        Check.due("a lower limit", x.most(2), -1);
        Check.due("to pay", x.least(2), 150);
        StringBuilder many = new StringBuilder("book days 4 periods 2 compound 1;from 0 limit 9;");
        for (int i = 0; i < 10; i++) {
            many.append("pay 3 99999;");
        }
        x = Check.told(many.toString());
        Check.due("999999", x.most(3), 999999);
        Check.due("ahead of it", x.most(2), 9);
        x.pay(3, 1);
        Check.due("no more than 999999", x.most(3), 999999);
        x = Check.told(many.toString().replace("pay", "draw"));
        Check.due("least", x.least(0), 999981);
        x.draw(5, 18);
        Check.due("at most", x.least(0), 999999);
        x.draw(5, 1);
        Check.due("above", x.least(0), -1);
        Check.due("above, its day", x.least(5), -1);
    }

    private static void reaches() {
        ValueDays x = Check.told("book days 5 periods 2 compound 1;draw 0 10;pay 3 25;draw 5 1;pay 9 86;");
        Check.due("at first", x.reaches(-10), 0);
        Check.due("below", x.reaches(-99999), 0);
        Check.due("-9", x.reaches(-9), 3);
        Check.due("15", x.reaches(15), 3);
        Check.due("16", x.reaches(16), 9);
        Check.due("100", x.reaches(100), 9);
        Check.due("101", x.reaches(101), -1);
        Check.due("99999", x.reaches(99999), -1);
        Check.due("100000", x.reaches(100000), -2);
        Check.due("-100000", x.reaches(-100000), -2);
    }

    private static void noBook() {
        ValueDays x = new ValueDays();
        Check.due("steps", x.steps(), -2);
        Check.due("step", x.step(0), -2);
        Check.due("lowest", x.lowest(), Check.NO_SUCH);
        Check.due("beyond", x.beyond(), -2);
        Check.due("firstBeyond", x.firstBeyond(), -2);
        Check.due("most", x.most(0), -2);
        Check.due("least", x.least(0), -2);
        Check.due("reaches", x.reaches(0), -2);
        Check.due("limitFor", x.limitFor(), -2);
    }
}
