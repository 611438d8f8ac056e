/** Promises 56 to 65: acts, images, acts taken back. Rate 3600: 1 of 1000 a day. */
public final class ActTest {
    private static final String TEXT = "book days 10 periods 2 compound 1;tier 3600;pay 0 1000;";

    public static void main(String[] args) {
        payAndDraw();
        reverse();
        change();
        closeAndRerun();
        images();
        undo();
        twentyActs();
        full();
        noBook();
        Check.finish("ActTest");
    }

    private static void payAndDraw() {
        ValueDays x = Check.told(TEXT);
        Check.due("pay", x.pay(19, 99999), 1);
        Check.due("draw", x.draw(0, 1), 2);
        Check.due("paid", x.entry(1, 1), 99999);
        Check.due("drawn", x.entry(2, 1), -1);
        Check.due("sort", x.entry(2, 0), 0);
        Check.due("acts", x.count(7), 2);
        int[][] bad = {{20, 5}, {-1, 5}, {0, 0}, {0, -5}, {0, 100000}, {0, Integer.MIN_VALUE}};
        for (int[] b : bad) {
            Check.due("pay " + b[0] + ", " + b[1], x.pay(b[0], b[1]), -2);
            Check.due("draw " + b[0] + ", " + b[1], x.draw(b[0], b[1]), -2);
        }
        Check.due("acts stay", x.count(7), 2);
        x.close();
        Check.due("pay in the next one", x.pay(0, 7), 4);
        Check.due("its page", x.entry(4, 3), 1);
        x.close();
        Check.due("none open", x.pay(0, 7), -5);
        Check.due("none open", x.draw(0, 7), -5);
        Check.due("none such ahead of none open", x.pay(20, 7), -2);
        Check.due("more than 30 entries", more(), 31);
    }

    private static int more() {
        ValueDays x = Check.told("book days 10 periods 2 compound 1;" + "pay 0 1;draw 0 1;".repeat(15));
        x.pay(0, 5);
        return x.count(5);
    }

    private static void reverse() {
        ValueDays x = Check.told(TEXT + "draw 3 200;close;");
        Check.due("reverse 1", x.reverse(1), 3);
        long[] want = {3, 200, 3, 1, -1, 1};
        for (int what = 0; what < 6; what++) {
            Check.due("entry 3, " + what, x.entry(3, what), want[what]);
        }
        Check.due("twice", x.reverse(1), -5);
        Check.due("interest", x.reverse(2), -5);
        Check.due("turned back itself", x.reverse(3), -5);
        Check.due("none such", x.reverse(4), -2);
        Check.due("none such", x.reverse(-1), -2);
        x.pay(0, 500);
        x.rerun();
        Check.due("rerun's", x.reverse(5), -5);
        Check.due("an act's", x.reverse(4), 6);
        Check.due("undo", x.undo(), 3);
        Check.due("again", x.reverse(4), 6);
        x.close();
        Check.due("none open", x.reverse(0), -5);
        Check.due("none such", x.reverse(99), -2);
    }

    private static void change() {
        ValueDays x = Check.told(TEXT);
        Check.due("rate", x.change(10, 0, 0), 1);
        Check.due("debit", x.change(0, 4, 5000), 2);
        Check.due("over", x.change(0, 5, 4999), 3);
        Check.due("limit", x.change(0, 6, 99999), 4);
        Check.due("rate 9", x.rate(0, 9), 3600);
        Check.due("rate 10", x.rate(0, 10), 0);
        Check.due("owing 0", x.owing(0, 0), 5000);
        Check.due("owing 1", x.owing(0, 1), 4999);
        Check.due("owing 2", x.owing(0, 2), 99999);
        int[][] bad = {{-1, 0, 5}, {20, 0, 5}, {0, -1, 5}, {0, 1, 5}, {0, 3, 5}, {0, 7, 5}, {0, 0, -1}, {0, 0, 5001}, {0, 4, 5001},
            {0, 5, 5001}, {0, 6, 100000}, {0, 6, -1}};
        for (int[] b : bad) {
            Check.due("change " + b[0] + ", " + b[1] + ", " + b[2], x.change(b[0], b[1], b[2]), -2);
        }
        Check.due("acts", x.count(7), 4);
        x.close();
        x.close();
        Check.due("with none open", x.change(0, 0, 1800), 5);
        Check.due("wrong then", x.wrong(0), -5);
        Check.due("the later day stays", x.rate(0, 10), 0);
        ValueDays y = Check.told("book days 10 periods 2 compound 1;" + "from 0 limit 5;".repeat(12));
        Check.due("a thirteenth", y.change(0, 6, 6), 13);
        Check.due("limit", y.owing(19, 2), 6);
        for (int i = 1; i < 20; i++) {
            Check.due("change", y.change(10, 6, i), 13 + i);
            Check.due("limit", y.owing(19, 2), i);
        }
        Check.due("32 of them", y.count(4), 32);
    }

    private static void closeAndRerun() {
        ValueDays x = Check.told(TEXT);
        Check.due("rerun of none", x.rerun(), 0);
        Check.due("an act all the same", x.count(7), 1);
        Check.due("close", x.close(), 0);
        Check.due("its entry", x.entry(1, 1), 10);
        Check.due("its value", x.entry(1, 2), 10);
        x.pay(5, 1000);
        Check.due("rerun", x.rerun(), 1);
        Check.due("the correction", x.entry(3, 1), 5);
        Check.due("again", x.rerun(), 0);
        Check.due("close", x.close(), 1);
        Check.due("closed", x.count(6), 2);
        Check.due("by 2015 on ten days", x.entry(4, 1), 20);
        Check.due("none open", x.close(), -5);
        Check.due("none open", x.rerun(), -5);
        Check.due("acts", x.count(7), 6);
        Check.due("a page that is closed stays", x.page(0, 6), 1010);
        halves();
        x = Check.told("book days 10 periods 2 compound 1;close;");
        Check.due("interest of 0 is booked", x.count(5), 1);
        Check.due("0", x.entry(0, 1), 0);
    }

    /** 0.49 and 0.5, of what is paid and of what is owed. */
    private static void halves() {
        String owed = "book days 10 periods 2 compound 1;tier 3600;debit 3600 over 3600 limit 0;";
        for (int sign = -1; sign <= 1; sign += 2) {
            String word = sign > 0 ? "pay 0 " : "draw 0 ";
            for (int amount = 49; amount <= 50; amount++) {
                int due = amount == 50 ? sign : 0;
                ValueDays x = Check.told(owed + word + amount + ";");
                Check.due("fresh", x.fresh(0), due);
                Check.due("all", x.all(), 2 * due);
                Check.due("ideal", x.ideal(0), due);
                Check.due("settled", x.settled(), sign * amount + 2 * due);
                Check.due("close", x.close(), 0);
                Check.due("booked", x.booked(0), due);
                x = Check.told(owed + "close;" + word + amount + ";");
                Check.due("wrong", x.wrong(0), due);
                Check.due("rights", x.rights(), Math.abs(due));
                Check.due("righted", x.righted(), due);
                Check.due("rerun", x.rerun(), Math.abs(due));
                Check.due("booked", x.booked(0), due);
            }
        }
    }

    private static void images() {
        ValueDays x = Check.told(TEXT);
        Check.due("nothing kept", x.back(0), -6);
        Check.due("no such", x.back(3), -2);
        Check.due("no such", x.back(-1), -2);
        Check.due("no such", x.image(3), -2);
        Check.due("no such", x.image(-1), -2);
        x.pay(0, 5);
        Check.due("image", x.image(1), 0);
        x.pay(0, 6);
        Check.due("image", x.image(2), 0);
        Check.due("another is empty", x.back(0), -6);
        Check.due("back", x.back(1), 0);
        Check.due("acts", x.count(7), 1);
        Check.due("entries", x.count(5), 2);
        Check.due("undo there", x.undo(), 0);
        Check.due("back again", x.back(1), 0);
        Check.due("acts", x.count(7), 1);
        Check.due("another book", Check.tell(x, "book days 3 periods 1 compound 2;"), 1);
        Check.due("back from it", x.back(2), 0);
        Check.due("days", x.count(0), 10);
        Check.due("lines", x.count(8), 3);
        Check.due("acts", x.count(7), 2);
        Check.due("balance", x.balance(0), 1011);
        x.feed(0, 0, 0, 0, 0);
        Check.due("back", x.back(1), 0);
        Check.due("the tape stays", x.count(9), 20);
        x.end(0);
        Check.due("no book", x.book(), 0);
        Check.due("no image of none", x.image(0), -2);
        Check.due("back to a book", x.back(1), 0);
        Check.due("entries", x.count(5), 2);
        x.draw(0, 1);
        Check.due("kept over", x.image(1), 0);
        x.anew();
        x.back(1);
        Check.due("the later one", x.count(7), 2);
    }

    private static void undo() {
        ValueDays x = Check.told(TEXT);
        Check.due("none", x.undo(), -5);
        Check.due("anew of none", x.anew(), 0);
        x.close();
        x.pay(3, 4000);
        x.rerun();
        x.change(0, 0, 1800);
        Check.due("undo the change", x.undo(), 3);
        Check.due("rate", x.rate(0, 0), 3600);
        Check.due("changes", x.count(4), 0);
        Check.due("undo the rerun", x.undo(), 2);
        Check.due("entries", x.count(5), 3);
        Check.due("wrong", x.wrong(0), 28);
        Check.due("undo the pay", x.undo(), 1);
        Check.due("wrong", x.wrong(0), 0);
        Check.due("undo the close", x.undo(), 0);
        Check.due("closed", x.count(6), 0);
        Check.due("none", x.undo(), -5);
        x.pay(0, 1);
        x.pay(0, 2);
        x.draw(0, 1);
        Check.due("anew", x.anew(), 3);
        Check.due("acts", x.count(7), 0);
        Check.due("entries", x.count(5), 1);
        Check.due("lines stay", x.count(8), 3);
        Check.due("balance", x.balance(0), 1000);
    }

    private static void twentyActs() {
        ValueDays x = Check.told(TEXT);
        for (int i = 1; i <= 20; i++) {
            Check.due("pay " + i, x.pay(0, i), i);
        }
        Check.due("pay", x.pay(0, 5), -5);
        Check.due("draw", x.draw(0, 5), -5);
        Check.due("reverse", x.reverse(0), -5);
        Check.due("change", x.change(0, 0, 5), -5);
        Check.due("close", x.close(), -5);
        Check.due("rerun", x.rerun(), -5);
        Check.due("none such", x.pay(0, 0), -2);
        Check.due("none such", x.reverse(50), -2);
        Check.due("none such", x.change(0, 7, 5), -2);
        Check.due("acts", x.count(7), 20);
        Check.due("undo", x.undo(), 19);
        Check.due("one more", x.close(), 0);
        Check.due("full again", x.rerun(), -5);
        Check.due("anew", x.anew(), 20);
        Check.due("twenty more", x.pay(0, 5), 1);
    }

    /** The most entries and changes that can come: every one is kept. */
    private static void full() {
        StringBuilder b = new StringBuilder("book days 2 periods 8 compound 4;tier 5000;");
        b.append("pay 0 99999;".repeat(9)).append("pay 0 9;".repeat(18)).append("close;".repeat(7));
        for (int i = 0; i < 3; i++) {
            b.append("pay 0 99999;rerun;");
        }
        b.append("from 0 tier 0 ").append("1;rerun;from 0 tier 0 5000;rerun;from 0 tier 0 1;rerun;");
        ValueDays x = Check.told(b.toString());
        Check.due("entries of lines", x.count(5), 30 + 7 + 6 * 7);
        for (int i = 0; i < 10; i++) {
            Check.due("change", x.change(0, 0, i % 2 == 0 ? 5000 : 1), 4 + i);
            Check.due("rerun", x.rerun(), 7);
        }
        Check.due("entries", x.count(5), 79 + 70);
        Check.due("the last sorted", x.sorted(148), 148);
        long sum = 0;
        for (int e = 0; e < 149; e++) {
            sum += x.entry(e, 1);
        }
        Check.due("page", x.page(7, 6), sum);
        Check.due("nothing is wrong", x.wrong(6), 0);
        Check.due("planned", x.planned(0, 8, 0), x.settled());
        Check.due("compounded", x.compounded(4), 0);
        x = Check.told(TEXT);
        for (int i = 1; i <= 20; i++) {
            Check.due("change", x.change(i % 20, 0, i), i);
        }
        Check.due("rate", x.rate(0, 0), 20);
        Check.due("rate", x.rate(0, 19), 19);
    }

    private static void noBook() {
        ValueDays x = new ValueDays();
        Check.due("pay", x.pay(0, 5), -2);
        Check.due("draw", x.draw(0, 5), -2);
        Check.due("reverse", x.reverse(0), -2);
        Check.due("change", x.change(0, 4, 5), -2);
        Check.due("close", x.close(), -2);
        Check.due("rerun", x.rerun(), -2);
        Check.due("image", x.image(0), -2);
        Check.due("back", x.back(0), -6);
        Check.due("undo", x.undo(), -2);
        Check.due("anew", x.anew(), -2);
    }
}
