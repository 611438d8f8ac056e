/** Promises 1 to 6: a new object, the tape, the book, its faults, counts. */
public final class BookTest {
    private static final String HEAD = "book days 10 periods 2 compound 1;";

    public static void main(String[] args) {
        newObject();
        tape();
        book();
        booksAfterOthers();
        booksThatFail();
        faultsOfTheFirstLine();
        faultsOfTiersAndDebit();
        faultsOfFrom();
        faultsOfEntries();
        faultsByPlace();
        bounds();
        counts();
        Check.finish("BookTest");
    }

    private static void newObject() {
        ValueDays x = new ValueDays();
        for (int what = 0; what < 10; what++) {
            Check.due("new count " + what, x.count(what), 0);
        }
        Check.due("new fault(0)", x.fault(0), 0);
        Check.due("new fault(1)", x.fault(1), -1);
        Check.due("new fault(2)", x.fault(2), -1);
        Check.due("new fault(-1)", x.fault(-1), -1);
        Check.due("new steps", x.steps(), -2);
        Check.due("new balance", x.balance(0), Check.NO_SUCH);
        Check.due("new book", x.book(), 0);
    }

    private static void tape() {
        ValueDays x = new ValueDays();
        for (int i = 1; i <= 45; i++) {
            Check.due("feed " + i, x.feed(0x20202020, 0x20202020, 0x20202020, 0x20202020, 0x20202020), 20 * i);
        }
        Check.due("feed 46", x.feed(1, 2, 3, 4, 5), -1);
        Check.due("bytes", x.count(9), 900);
        Check.due("end(901)", x.end(901), -1);
        Check.due("end(-1)", x.end(-1), -1);
        Check.due("bytes", x.count(9), 900);
        Check.due("end(900)", x.end(900), 900);
        Check.due("end(881)", x.end(881), 881);
        Check.due("feed at 881", x.feed(1, 2, 3, 4, 5), -1);
        Check.due("bytes", x.count(9), 881);
        Check.due("end(880)", x.end(880), 880);
        Check.due("feed at 880", x.feed(0x20202020, 0x20202020, 0x20202020, 0x20202020, 0x20202020), 900);
        Check.due("end(0)", x.end(0), 0);
        Check.due("end(1) of 0", x.end(1), -1);
        // Bytes come highest first, also from numbers below 0, and end() keeps the first ones.
        Check.feed(x, "book days 10 periods 2 compound 1;pay 0 5");
        Check.due("end(39)", x.end(39), 39);
        Check.feed(x, "1 77;");
        Check.due("book", x.book(), 2);
        Check.due("its bytes", x.count(9), 0);
        Check.due("day 01", x.entry(0, 2), 1);
        Check.due("amount", x.entry(0, 1), 77);
        Check.due("feed below 0", x.feed(-1, -2, -3, -4, -5), 20);
        Check.due("book", x.book(), -4);
        Check.due("place", x.fault(1), 0);
        Check.due("its bytes", x.count(9), 0);
    }

    private static void book() {
        ValueDays x = new ValueDays();
        Check.due("lines", Check.tell(x, HEAD + "tier 5;pay 0 9;close;"), 4);
        Check.due("lines", x.count(8), 4);
        Check.due("no blanks", Check.tell(x, "book days10periods2compound1;pay0 9;"), 2);
        Check.due("entries", x.count(5), 1);
        Check.due("blanks", Check.tell(x, "\n book\ndays 10\n\n periods 2 compound 1 ;\npay 19 9 ; \n"), 2);
        Check.due("value", x.entry(0, 2), 19);
        Check.due("zeros ahead", Check.tell(x, "book days 0000000000000010 periods 02 compound 01;pay 00 00009;"), 2);
        Check.due("amount", x.entry(0, 1), 9);
        x.pay(0, 5);
        Check.due("acts", x.count(7), 1);
        Check.due("another book", Check.tell(x, HEAD), 1);
        Check.due("no acts", x.count(7), 0);
        Check.due("no entries", x.count(5), 0);
        Check.due("blanks alone", Check.tell(x, " \n  "), 0);
        Check.due("no book", x.count(0), 0);
        Check.due("no lines", x.count(8), 0);
        Check.due("no book", x.undo(), -2);
        Check.due("no fault", x.fault(0), 0);
        // Tiers, rates, a debit told late count from where they stand.
        x = Check.told(HEAD + "pay 0 1000;close;tier 3600;");
        Check.due("booked ahead of tier", x.booked(0), 0);
        Check.due("fresh behind it", x.fresh(0), 10);
        x = Check.told(HEAD + "tier 3600;pay 0 1000;close;from 0 tier 0 0;");
        Check.due("booked ahead of from", x.booked(0), 10);
        Check.due("wrong behind it", x.wrong(0), -10);
        x = Check.told(HEAD + "tier 3600;pay 0 1000;close;pay 0 2000;rerun;pay 0 3000;");
        Check.due("booked ahead of the last", x.booked(0), 30);
        Check.due("wrong behind it", x.wrong(0), 30);
    }

    /** What an earlier text told, with a fault or without, is forgotten. */
    private static void booksAfterOthers() {
        ValueDays x = Check.told(HEAD + "tier 5 to 99999;debit 7 over 8 limit 9;" + "from 0 limit 5;".repeat(12) + "rerun;".repeat(6)
            + "pay 0 1;draw 0 1;".repeat(15) + "close;close;");
        Check.due("another", Check.tell(x, HEAD + "pay 0 1;"), 2);
        for (int what = 0; what < 3; what++) {
            Check.due("owing " + what, x.owing(19, what), 0);
        }
        Check.due("changes", x.count(4), 0);
        Check.due("tiers", x.count(3), 0);
        Check.due("closed", x.count(6), 0);
        Check.due("balance", x.balance(19), 1);
        String full = HEAD + "tier 5 to 3;tier 6;debit 1 over 2 limit 3;" + "from 0 limit 5;".repeat(12) + "pay 0 1;draw 0 1;".repeat(15)
            + "rerun;".repeat(6) + "close;close;";
        int lines = 3 + 1 + 12 + 30 + 6 + 2;
        Check.due("full", Check.tell(x, full), lines);
        Check.due("full again", Check.tell(x, full), lines);
        Check.due("full with a fault", Check.tell(x, full + "x"), -4);
        Check.due("full behind a fault", Check.tell(x, full), lines);
        Check.due("a tier without top", Check.tell(x, HEAD + "tier 5;"), 2);
        Check.due("a tier behind it", Check.tell(x, HEAD + "tier 5 to 1;"), 2);
    }

    private static void booksThatFail() {
        ValueDays x = Check.told(HEAD + "pay 0 9;");
        x.pay(1, 4);
        x.image(0);
        Check.due("fault", Check.tell(x, HEAD + "pay 0 8;pay 20 7;"), -4);
        Check.due("fault(0)", x.fault(0), 2);
        Check.due("fault(1)", x.fault(1), 46);
        Check.due("fault(2)", x.fault(2), -1);
        Check.due("the old book", x.entry(0, 1), 9);
        Check.due("its act", x.entry(1, 1), 4);
        Check.due("acts", x.count(7), 1);
        Check.due("lines", x.count(8), 2);
        Check.due("bytes", x.count(9), 0);
        Check.due("undo", x.undo(), 0);
        Check.due("back", x.back(0), 0);
        Check.due("the image's act", x.count(7), 1);
        Check.due("a good one", Check.tell(x, HEAD), 1);
        Check.due("fault(0)", x.fault(0), 0);
        Check.due("fault(1)", x.fault(1), -1);
    }

    private static void faultsOfTheFirstLine() {
        Check.fault(";", 1, 0);
        Check.fault("5", 1, 0);
        Check.fault("  Book", 1, 2);
        Check.fault("tier 5;", 1, 0);
        Check.fault("close;", 1, 0);
        Check.fault("rerun;", 1, 0);
        Check.fault("pay 0 5;", 1, 0);
        Check.fault("debit 1 over 2 limit 3;", 1, 0);
        Check.fault("boo", 1, 0);
        Check.fault("books", 1, 0);
        Check.fault("bookdays 10 periods 2 compound 1;", 1, 0);
        Check.fault("book", 1, 4);
        Check.fault("book \n ", 1, 7);
        Check.fault("book days", 1, 9);
        Check.fault("book 10", 1, 5);
        Check.fault("book days x", 1, 10);
        Check.fault("book days 1 periods 2 compound 1;", 2, 10);
        Check.fault("book days 41 periods 2 compound 1;", 2, 10);
        Check.fault("book days 10 periods 0 compound 1;", 2, 21);
        Check.fault("book days 10 periods 9 compound 1;", 2, 21);
        Check.fault("book days 10 periods 2 compound 0;", 2, 32);
        Check.fault("book days 10 periods 2 compound 5;", 2, 32);
        Check.fault("book days 10 compound 2", 1, 13);
        Check.fault("book days 10 periods 2 compound 1", 1, 33);
        Check.fault("book days 10 periods 2 compound 1 1;", 1, 34);
        Check.fault("book days 10 periods 2 compound 1 tier", 1, 34);
        Check.fault(HEAD + HEAD, 1, 34);
        Check.fault(HEAD + "book", 1, 34);
        Check.fault(HEAD + ";", 1, 34);
        Check.fault(HEAD + "7;", 1, 34);
    }

    private static void faultsOfTiersAndDebit() {
        Check.fault(HEAD + "tier;", 1, 38);
        Check.fault(HEAD + "tier to", 1, 39);
        Check.fault(HEAD + "tier 5001;", 2, 39);
        Check.fault(HEAD + "tier 5 7;", 1, 41);
        Check.fault(HEAD + "tier 5 over", 1, 41);
        Check.fault(HEAD + "tier 5 to;", 1, 43);
        Check.fault(HEAD + "tier 5 to 0;", 2, 44);
        Check.fault(HEAD + "tier 5 to 100000;", 2, 44);
        Check.fault(HEAD + "tier 5 to 10 to 11;", 1, 47);
        Check.fault(HEAD + "tier 5 to 10;tier 5 to 10;", 2, 57);
        Check.fault(HEAD + "tier 5 to 10;tier 5 to 9;", 2, 57);
        Check.fault(HEAD + "tier 5 to 99999;tier 5 to 99999;", 2, 60);
        Check.fault(HEAD + "tier 1;tier 2;", 3, 41);
        Check.fault(HEAD + "tier 1;tier 2 to 5;", 3, 41);
        Check.fault(HEAD + "tier 1 to 1;tier 1 to 2;tier 1 to 3;tier 1 to 4;tier x", 3, 82);
        Check.fault(HEAD + "tier 1 to 1;tier 1 to 2;tier 1 to 3;tier 1;tier 1;", 3, 77);
        Check.fault(HEAD + "tier 1", 1, 40);
        Check.fault(HEAD + "debit 5001 over 2 limit 3;", 2, 40);
        Check.fault(HEAD + "debit 5 over 5001 limit 3;", 2, 47);
        Check.fault(HEAD + "debit 5 over 5 limit 100000;", 2, 55);
        Check.fault(HEAD + "debit 5 limit 5;", 1, 42);
        Check.fault(HEAD + "debit 5 over 5;", 1, 48);
        Check.fault(HEAD + "debit over;", 1, 40);
        Check.fault(HEAD + "debit 1 over 2 limit 3;debit", 3, 57);
    }

    private static void faultsOfFrom() {
        Check.fault(HEAD + "from x", 1, 39);
        Check.fault(HEAD + "from tier", 1, 39);
        Check.fault(HEAD + "from 20 limit 5;", 2, 39);
        Check.fault(HEAD + "from 0 5;", 1, 41);
        Check.fault(HEAD + "from 0;", 1, 40);
        Check.fault(HEAD + "from 0", 1, 40);
        Check.fault(HEAD + "from 0 pay 5;", 1, 41);
        Check.fault(HEAD + "from 0 to 5;", 1, 41);
        Check.fault(HEAD + "from 0 limit 100000;", 2, 47);
        Check.fault(HEAD + "from 0 debit 5001;", 2, 47);
        Check.fault(HEAD + "from 0 over 5001;", 2, 46);
        Check.fault(HEAD + "from 0 tier 0 5;", 2, 46);
        Check.fault(HEAD + "tier 5;from 0 tier 1 5;", 2, 53);
        Check.fault(HEAD + "tier 5;from 0 tier 0 5001;", 2, 55);
        Check.fault(HEAD + "tier 5;from 0 tier 0;", 1, 54);
        Check.fault(HEAD + "tier 5;from 0 tier x 5;", 1, 53);
        Check.fault(HEAD + "from 0 limit 5;".repeat(12) + "from x", 3, 214);
    }

    private static void faultsOfEntries() {
        Check.fault(HEAD + "pay 20 5;", 2, 38);
        Check.fault(HEAD + "pay 0 0;", 2, 40);
        Check.fault(HEAD + "pay 0 100000;", 2, 40);
        Check.fault(HEAD + "pay 0 4294967297;", 2, 40);
        Check.fault(HEAD + "pay 18446744073709551616 1;", 2, 38);
        Check.fault(HEAD + "pay 0;", 1, 39);
        Check.fault(HEAD + "pay;", 1, 37);
        Check.fault(HEAD + "pay 0 5 5;", 1, 42);
        Check.fault(HEAD + "draw 20 5;", 2, 39);
        Check.fault(HEAD + "draw 0 0;", 2, 41);
        Check.fault(HEAD + "draw 0 100000;", 2, 41);
        Check.fault(HEAD + "draw x", 1, 39);
        Check.fault(HEAD + "pay 0 1;draw 0 1;".repeat(15) + "pay 0 1;", 3, 289);
        Check.fault(HEAD + "pay 0 1;draw 0 1;".repeat(15) + "draw x", 3, 289);
        Check.fault(HEAD + "close;close;close;", 3, 46);
        Check.fault(HEAD + "close;close;pay 0 5;", 3, 46);
        Check.fault(HEAD + "close;close;draw 0 5;", 3, 46);
        Check.fault(HEAD + "close;close;rerun;", 3, 46);
        Check.fault(HEAD + "rerun;".repeat(7), 3, 70);
        Check.fault(HEAD + "rerun 5;", 1, 40);
        Check.fault(HEAD + "close", 1, 39);
        Check.fault(HEAD + "close close;", 1, 40);
        Check.fault(HEAD + "closex;", 1, 34);
    }

    private static void faultsByPlace() {
        Check.fault(HEAD + "pay 20 0;", 2, 38);
        Check.fault(HEAD + "pay 20 $;", 2, 38);
        Check.fault(HEAD + "pay 0 $5;", 1, 40);
        Check.fault(HEAD + "pay 0 5$;", 1, 41);
        Check.fault(HEAD + "pay 0 5;\tpay 0 5;", 1, 42);
        Check.fault(HEAD + "pay 0 5;\r\n", 1, 42);
        Check.fault(HEAD + "pay 0 5;" + (char) 0, 1, 42);
        Check.fault(HEAD + "pay 0 5;" + (char) 255, 1, 42);
        Check.fault(HEAD + "pay -1 5;", 1, 38);
        Check.fault(HEAD + "tier 1;pay 0 5;tier 2;pay 99 1;", 3, 49);
        Check.fault(HEAD + "Pay 0 5;", 1, 34);
        Check.fault(HEAD + "pAy 0 5;", 1, 34);
        Check.fault(HEAD + "tier 5t", 1, 40);
        Check.fault(HEAD + "xier 5;", 1, 34);
        Check.fault("nook days 10 periods 2 compound 1;", 1, 0);
        Check.fault(HEAD + "closez;", 1, 34);
        Check.fault(HEAD + "aclose;", 1, 34);
        Check.fault(HEAD + "pay 0 5:", 1, 41);
        Check.fault(HEAD + "pay 0 5/", 1, 41);
        Check.fault(HEAD + "pay 0 5`", 1, 41);
        Check.fault(HEAD + "pay 0 5{", 1, 41);
    }

    private static void bounds() {
        Check.due("least", Check.told("book days 2 periods 1 compound 1;").count(0), 2);
        ValueDays x = Check.told("book days 40 periods 8 compound 4;tier 0 to 1;tier 5000 to 2;tier 1 to 99998;tier 2 to 99999;"
            + "debit 0 over 5000 limit 99999;from 319 tier 3 5000;from 0 debit 5000;from 0 over 0;from 0 limit 0;"
            + "pay 319 99999;draw 0 1;");
        Check.due("most", x.count(8), 12);
        Check.due("days", x.balance(319), 99998);
        x = Check.told(HEAD + "from 0 limit 5;".repeat(12) + "pay 0 1;draw 0 1;".repeat(15) + "rerun;".repeat(6)
            + "close;close;");
        Check.due("many lines", x.count(8), 1 + 12 + 30 + 6 + 2);
        x = Check.told("book days 2 periods 8 compound 1;tier 1 to 1;tier 1 to 2;tier 1 to 3;tier 1;debit 1 over 1 limit 1;"
            + "from 0over1;".repeat(12) + "pay 0 1;".repeat(30) + "rerun;".repeat(6) + "close;".repeat(8));
        Check.due("all lines there can be", x.count(8), 62);
        Check.due("the last one", x.count(6), 8);
        x = Check.told(HEAD + "close;close;tier 5;debit 1 over 2 limit 3;from 0 tier 0 9;");
        Check.due("behind all periods", x.count(4), 1);
    }

    private static void counts() {
        ValueDays x = Check.told("book days 7 periods 3 compound 2;tier 5 to 9;tier 6;from 0 tier 1 7;from 3 limit 8;"
            + "from 4 limit 9;pay 0 5;close;");
        x.draw(1, 2);
        x.feed(0, 0, 0, 0, 0);
        int[] want = {7, 3, 2, 2, 3, 3, 1, 1, 8, 20};
        for (int what = 0; what < want.length; what++) {
            Check.due("count " + what, x.count(what), want[what]);
        }
        Check.due("count 10", x.count(10), -1);
        Check.due("count -1", x.count(-1), -1);
    }
}
