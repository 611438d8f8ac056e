/** Promises 53 to 55: what is left of entries, when they went, the oldest one owed. */
public final class PaidOffTest {
    public static void main(String[] args) {
        ValueDays x = Check.told("book days 10 periods 1 compound 1;draw 5 300;pay 2 100;pay 7 500;draw 1 50;");
        rows(x, new long[] {0, 0, 250, 0}, new int[] {7, 5, -1, 2});
        Check.due("none owed", x.oldest(), -1);
        x.draw(0, 400);
        // Now 400 of day 0 comes first: by 100 of day 2 and 300 of day 7; then 50, then 150 of 300.
        rows(x, new long[] {150, 0, 0, 0, 0}, new int[] {-1, 2, 7, 7, 7});
        Check.due("owed", x.oldest(), 0);
        x.draw(5, 9);
        Check.due("the first of one day", x.oldest(), 0);
        x.draw(4, 9);
        Check.due("the earliest one", x.oldest(), 0);
        x.draw(4, 200);
        rows(x, new long[] {300, 0, 0, 0, 0, 9, 0, 59}, new int[] {-1, 2, 7, 7, 7, -1, 7, -1});
        Check.due("the earliest one", x.oldest(), 7);
        Check.due("left -1", x.left(-1), Check.NO_SUCH);
        Check.due("left 8", x.left(8), Check.NO_SUCH);
        Check.due("gone -1", x.gone(-1), -2);
        Check.due("gone 8", x.gone(8), -2);
        sorts();
        Check.due("gone asked first", Check.told("book days 10 periods 1 compound 1;draw 5 3;pay 2 9;").gone(0), 5);
        Check.due("oldest asked first", Check.told("book days 10 periods 1 compound 1;pay 2 2;draw 5 3;").oldest(), 1);
        Check.due("oldest by number 0", Check.told("book days 10 periods 1 compound 1;draw 5 3;pay 2 2;").oldest(), 0);
        Check.due("no book", new ValueDays().left(0), Check.NO_SUCH);
        Check.due("no book", new ValueDays().gone(0), -2);
        Check.due("no book", new ValueDays().oldest(), -2);
        Check.due("no entries", Check.told("book days 10 periods 1 compound 1;").oldest(), -1);
        Check.finish("PaidOffTest");
    }

    /** Interest, corrections, what is turned back: all pay off and are paid off, those of 0 aside. */
    private static void sorts() {
        ValueDays x = Check.told("book days 10 periods 3 compound 3;debit 3600 over 3600 limit 0;close;draw 0 1000;rerun;pay 12 1000;");
        // Entries: 0 interest of 0, 1 drawn, 2 the correction: 10 owed by day 30, 3 paid.
        rows(x, new long[] {0, 0, 10, 0}, new int[] {-1, 12, -1, 12});
        Check.due("the correction is owed", x.oldest(), 2);
        x.reverse(1);
        rows(x, new long[] {0, 0, 0, 990, 0}, new int[] {-1, 0, 30, -1, 0});
        Check.due("none", x.oldest(), -1);
    }

    private static void rows(ValueDays x, long[] left, int[] gone) {
        for (int e = 0; e < left.length; e++) {
            Check.due("left " + e, x.left(e), left[e]);
            Check.due("gone " + e, x.gone(e), gone[e]);
        }
    }
}
