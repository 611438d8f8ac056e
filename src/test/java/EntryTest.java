/** Promises 7 to 20, 26, 38, 41, 45: entries, rates, balances, parts, periods, pages. Rate 3600: 1 of 1000 a day. */
public final class EntryTest {
    private static final String TEXT = "book days 10 periods 3 compound 2;tier 3600;debit 1800 over 3600 limit 500;"
        + "pay 0 1000;draw 5 300;close;pay 3 2000;rerun;";
    private static final String OWED = "book days 4 periods 2 compound 1;debit 1000 over 2000 limit 300;draw 0 500;pay 2 300;";

    public static void main(String[] args) {
        entries();
        rates();
        balances();
        parts();
        interest();
        pages();
        means();
        Check.finish("EntryTest");
    }

    private static void entries() {
        ValueDays x = Check.told(TEXT);
        long[][] want = {{0, 1000, 0, 0, -1, -1}, {0, -300, 5, 0, -1, -1}, {1, 9, 20, 0, 0, -1}, {0, 2000, 3, 1, -1, -1},
            {2, 14, 20, 1, 0, -1}};
        Check.due("entries", x.count(5), want.length);
        for (int e = 0; e < want.length; e++) {
            for (int what = 0; what < 6; what++) {
                Check.due("entry " + e + ", " + what, x.entry(e, what), want[e][what]);
            }
        }
        Check.due("reverse", x.reverse(1), 5);
        long[] turned = {3, 300, 5, 1, -1, 1};
        for (int what = 0; what < 6; what++) {
            Check.due("turned " + what, x.entry(5, what), turned[what]);
        }
        Check.due("entry 6", x.entry(6, 0), Check.NO_SUCH);
        Check.due("entry -1", x.entry(-1, 0), Check.NO_SUCH);
        Check.due("what 6", x.entry(0, 6), Check.NO_SUCH);
        Check.due("what -1", x.entry(0, -1), Check.NO_SUCH);
        int[] order = {0, 3, 1, 5, 2, 4};
        for (int k = 0; k < order.length; k++) {
            Check.due("sorted " + k, x.sorted(k), order[k]);
        }
        Check.due("sorted 6", x.sorted(6), -1);
        Check.due("sorted far", x.sorted(Integer.MAX_VALUE), -1);
        Check.due("sorted -1", x.sorted(-1), -2);
        Check.due("sorted without a book", new ValueDays().sorted(0), -2);
    }

    private static void rates() {
        ValueDays x = Check.told("book days 5 periods 2 compound 1;tier 100;from 6 tier 0 300;from 3 tier 0 200;from 6 tier 0 400;"
            + "from 2 debit 7;from 4 over 8;from 5 limit 9;debit 1 over 2 limit 3;from 0 limit 5;");
        int[] rate = {100, 100, 100, 200, 200, 200, 400, 400, 400, 400};
        int[][] owing = {{1, 1, 7, 7, 7, 7, 7, 7, 7, 7}, {2, 2, 2, 2, 8, 8, 8, 8, 8, 8}, {5, 5, 5, 5, 5, 9, 9, 9, 9, 9}};
        for (int d = 0; d < 10; d++) {
            Check.due("rate " + d, x.rate(0, d), rate[d]);
            for (int what = 0; what < 3; what++) {
                Check.due("owing " + d + ", " + what, x.owing(d, what), owing[what][d]);
            }
        }
        Check.due("rate of no tier", x.rate(1, 0), -1);
        Check.due("rate of tier -1", x.rate(-1, 0), -1);
        Check.due("rate of tier 4", x.rate(4, 0), -1);
        Check.due("rate of no day", x.rate(0, 10), -1);
        Check.due("rate of day -1", x.rate(0, -1), -1);
        Check.due("owing on no day", x.owing(10, 0), -1);
        Check.due("owing on day -1", x.owing(-1, 0), -1);
        Check.due("owing 3", x.owing(0, 3), -1);
        Check.due("owing -1", x.owing(0, -1), -1);
        x = Check.told("book days 5 periods 2 compound 1;");
        Check.due("without debit", x.owing(0, 0) + x.owing(0, 1) + x.owing(0, 2), 0);
        // A rate of a day that has been told stays over one told later for a day ahead of it.
        x.change(4, 6, 50);
        x.change(2, 6, 30);
        Check.due("day 1", x.owing(1, 2), 0);
        Check.due("day 3", x.owing(3, 2), 30);
        Check.due("day 9", x.owing(9, 2), 50);
        x.change(4, 6, 60);
        Check.due("the last told", x.owing(9, 2), 60);
    }

    private static void balances() {
        ValueDays x = Check.told(TEXT);
        int[][] want = {{0, 1000}, {2, 1000}, {3, 3000}, {4, 3000}, {5, 2700}, {19, 2700}, {20, 2723}, {29, 2723}};
        for (int[] w : want) {
            Check.due("balance " + w[0], x.balance(w[0]), w[1]);
        }
        Check.due("balance 30", x.balance(30), Check.NO_SUCH);
        Check.due("balance -1", x.balance(-1), Check.NO_SUCH);
    }

    private static void parts() {
        ValueDays x = Check.told("book days 2 periods 1 compound 1;tier 100 to 1000;tier 200 to 3000;pay 0 5000;draw 1 2500;");
        long[] first = {1000, 2000, 2000, 0, 0};
        long[] second = {1000, 1500, 0, 0, 0};
        for (int t = 0; t < 5; t++) {
            Check.due("part 0, " + t, x.part(0, t), first[t]);
            Check.due("part 1, " + t, x.part(1, t), second[t]);
        }
        Check.due("part 0, 5", x.part(0, 5), Check.NO_SUCH);
        Check.due("part 0, -1", x.part(0, -1), Check.NO_SUCH);
        Check.due("part 0, far", x.part(0, Integer.MIN_VALUE), Check.NO_SUCH);
        Check.due("part 0, far", x.part(0, Integer.MAX_VALUE), Check.NO_SUCH);
        Check.due("part 2, 0", x.part(2, 0), Check.NO_SUCH);
        Check.due("part -1, 0", x.part(-1, 0), Check.NO_SUCH);
        Check.due("product 0", x.product(0), 500000);
        Check.due("product 1", x.product(1), 400000);
        Check.due("product 2", x.product(2), Check.NO_SUCH);
        Check.due("earned 0", x.earned(0, 0), 200000);
        Check.due("earned 1", x.earned(0, 1), 700000);
        Check.due("earned 2", x.earned(0, 2), Check.NO_SUCH);
        Check.due("earned -1", x.earned(0, -1), Check.NO_SUCH);
        Check.due("earned of no period", x.earned(1, 0), Check.NO_SUCH);
        x = Check.told(OWED);
        long[] owed = {0, 300, 200};
        long[] less = {0, 200, 0};
        for (int t = 0; t < 3; t++) {
            Check.due("owed 0, " + t, x.part(0, t), owed[t]);
            Check.due("owed 2, " + t, x.part(2, t), less[t]);
        }
        Check.due("product 0", x.product(0), -700000);
        Check.due("product 2", x.product(2), -200000);
        // Without tiers all that is above 0 is above all of them.
        Check.due("no tiers", Check.told("book days 2 periods 1 compound 1;pay 0 70;").part(1, 0), 70);
        x = Check.told("book days 2 periods 1 compound 1;tier 100 to 10;tier 50;pay 0 70;");
        Check.due("the last without top", x.part(0, 1), 60);
        Check.due("above it", x.part(0, 2), 0);
        x = Check.told("book days 2 periods 1 compound 1;tier 9 to 10;tier 9;draw 0 70;");
        Check.due("below 0", x.part(0, 0) + x.part(0, 1) + x.part(0, 2), 0);
        Check.due("limit 0", x.part(0, 3), 0);
        Check.due("all above it", x.part(0, 4), 70);
    }

    private static void interest() {
        ValueDays x = Check.told(TEXT);
        Check.due("products 0", x.products(0, 0), 81000000);
        Check.due("fresh 0: 22.5", x.fresh(0), 23);
        Check.due("fresh 1", x.fresh(1), 27);
        Check.due("fresh 2: 27.23", x.fresh(2), 27);
        Check.due("all", x.all(), 77);
        Check.due("booked 0", x.booked(0), 23);
        Check.due("booked 1", x.booked(1), 0);
        Check.due("wrong 0", x.wrong(0), 0);
        Check.due("compounds 0", x.compounds(0), 20);
        Check.due("compounds 1", x.compounds(1), 20);
        Check.due("compounds 2", x.compounds(2), 40);
        x.draw(0, 3000);
        // Days 0 .. 2: 2000 owed, 3 and 4: 0, 5 .. 9: 300 owed.
        Check.due("products of tiers", x.products(0, 0), 0);
        Check.due("products of debit", x.products(0, 1), 3L * (500 * 1800 + 1500 * 3600) + 5L * 300 * 1800);
        Check.due("fresh 0: -6", x.fresh(0), -6);
        Check.due("wrong 0", x.wrong(0), -29);
        Check.due("wrong of an open one", x.wrong(1), 0);
        x = Check.told(OWED);
        Check.due("a half away from 0", x.fresh(0), -1);
        Check.due("less than a half", x.fresh(1), 0);
        Check.due("products of debit", x.products(0, 1), 1800000);
        Check.due("what 2", x.products(0, 2), Check.NO_SUCH);
        Check.due("what -1", x.products(0, -1), Check.NO_SUCH);
        for (int p = -1; p < 3; p += 3) {
            Check.due("products " + p, x.products(p, 0), Check.NO_SUCH);
            Check.due("fresh " + p, x.fresh(p), Check.NO_SUCH);
            Check.due("booked " + p, x.booked(p), Check.NO_SUCH);
            Check.due("wrong " + p, x.wrong(p), Check.NO_SUCH);
            Check.due("compounds " + p, x.compounds(p), -1);
        }
        x = Check.told("book days 40 periods 8 compound 3;");
        int[] days = {120, 120, 120, 240, 240, 240, 360, 360};
        for (int p = 0; p < 8; p++) {
            Check.due("compounds " + p, x.compounds(p), days[p]);
        }
    }

    private static void pages() {
        ValueDays x = Check.told(TEXT);
        x.reverse(1);
        long[][] want = {{0, 1000, 300, 9, 0, 0, 709, 3}, {709, 2000, 0, 0, 14, 300, 3023, 3}, {3023, 0, 0, 0, 0, 0, 3023, 0}};
        for (int p = 0; p < 3; p++) {
            for (int what = 0; what < 8; what++) {
                Check.due("page " + p + ", " + what, x.page(p, what), want[p][what]);
            }
        }
        Check.due("page 3", x.page(3, 0), Check.NO_SUCH);
        Check.due("page -1", x.page(-1, 0), Check.NO_SUCH);
        Check.due("what 8", x.page(0, 8), Check.NO_SUCH);
        Check.due("what -1", x.page(0, -1), Check.NO_SUCH);
        int[][] lines = {{0, 1, 2}, {3, 4, 5}, {}};
        for (int p = 0; p < 3; p++) {
            for (int i = 0; i < lines[p].length; i++) {
                Check.due("line " + p + ", " + i, x.line(p, i), lines[p][i]);
            }
            Check.due("behind the last", x.line(p, lines[p].length), -1);
            Check.due("line -1", x.line(p, -1), -2);
        }
        Check.due("line of no page", x.line(3, 0), -2);
        Check.due("line of page -1", x.line(-1, 0), -2);
        long[][] dated = {{0, 0, 1, 9}, {2, 2300, 1, 14}, {0, 0, 0, 0}};
        for (int p = 0; p < 3; p++) {
            for (int what = 0; what < 4; what++) {
                Check.due("backdated " + p + ", " + what, x.backdated(p, what), dated[p][what]);
            }
        }
        Check.due("backdated 0, 4", x.backdated(0, 4), Check.NO_SUCH);
        Check.due("backdated 0, -1", x.backdated(0, -1), Check.NO_SUCH);
        Check.due("backdated 3, 0", x.backdated(3, 0), Check.NO_SUCH);
        Check.due("backdated -1, 0", x.backdated(-1, 0), Check.NO_SUCH);
        Check.due("bears 0", x.bears(0), 3);
        Check.due("bears 1", x.bears(1), 3);
        Check.due("bears 2", x.bears(2), 4);
        Check.due("bears 3", x.bears(3), -2);
        Check.due("bears -1", x.bears(-1), -2);
        Check.due("on the edges", edges(), 0);
    }

    /** Entries on the first and the last day of their page's period are neither ahead of it nor behind it. */
    private static long edges() {
        ValueDays x = Check.told("book days 10 periods 3 compound 1;close;pay 10 5;pay 19 6;");
        Check.due("on its last day", x.bears(1), 2);
        return x.backdated(1, 0) + x.backdated(1, 2);
    }

    private static void means() {
        ValueDays x = Check.told("book days 6 periods 2 compound 1;pay 2 9;draw 6 10;");
        Check.due("36 by 6", x.mean(0, 0), 6);
        Check.due("36 by 6", x.mean(0, 1), 1);
        Check.due("-6 by 6", x.mean(1, 0), -1);
        Check.due("-6 by 6", x.mean(1, 1), 1);
        x.pay(10, 1);
        Check.due("-4 by 6", x.mean(1, 0), -2);
        Check.due("-4 by 6", x.mean(1, 1), 3);
        x.pay(11, 3);
        Check.due("-1 by 6", x.mean(1, 0), -1);
        Check.due("-1 by 6", x.mean(1, 1), 6);
        Check.due("what 2", x.mean(0, 2), Check.NO_SUCH);
        Check.due("what -1", x.mean(0, -1), Check.NO_SUCH);
        Check.due("period 2", x.mean(2, 0), Check.NO_SUCH);
        Check.due("period -1", x.mean(-1, 0), Check.NO_SUCH);
        x = Check.told("book days 6 periods 2 compound 1;");
        Check.due("0 by 6", x.mean(0, 0), 0);
        Check.due("0 by 6", x.mean(0, 1), 1);
    }
}
