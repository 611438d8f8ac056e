/** Each sentence of promises 56 to 65, with the edges it names. Rate 3600: 1 of 1000 a day. */
public final class Sentences56To65Test {
    private static final String HEAD = "book days 10 periods 2 compound 1;";
    private static final String TEXT = HEAD + "tier 3600;pay 0 1000;";
    private static final String CLOSED = TEXT + "close;close;";

    public static void main(String[] args) throws Exception {
        Sentences.run(Sentences56To65Test.class, Sentences.promises(56, 65));
    }

    /** A book with so many acts, that change nothing of what is asked here: the limit on the last day. */
    private static ValueDays withActs(String text, int acts) {
        ValueDays x = Check.told(text);
        for (int i = 0; i < acts; i++) {
            x.change(19, 6, i);
        }
        Check.due("acts", x.count(7), acts);
        return x;
    }

    /** What a refused call leaves as it was: all is as in another object that was never asked for it. */
    private static void stays(String call, ValueDays x, int acts, int entries) {
        Check.due("acts behind " + call, x.count(7), acts);
        Check.due("entries behind " + call, x.count(5), entries);
        Check.due("balance behind " + call, x.balance(0), 1000);
        Check.same(call, x, Picture.of(withActs(x.count(6) == 2 ? CLOSED : TEXT, acts)));
    }

    /** Acts of all kinds: what is asked behind each, and behind each taken back, is alike. */
    private static void actsAndBack(ValueDays x) {
        String[] before = new String[8];
        for (int act = 0; act < 8; act++) {
            before[act] = Picture.of(x);
            switch (act) {
                case 0: x.draw(3, 700); break;
                case 1: x.close(); break;
                case 2: x.pay(0, 5000); break;
                case 3: x.rerun(); break;
                case 4: x.reverse(0); break;
                case 5: x.change(4, 0, 5000); break;
                case 6: x.rerun(); break;
                default: x.pay(19, 99999); break;
            }
            Check.due("act " + act, x.count(7), act + 1);
            Check.due("act " + act + " does something", Picture.of(x).equals(before[act]) ? 0 : 1, 1);
        }
        for (int act = 7; act >= 0; act--) {
            Check.due("undo " + act, x.undo(), act);
            Check.same("undo " + act, x, before[act]);
        }
    }

    // ---- 56, 57: pay, draw

    @Says(at = "56", text = "An act: paid with VALUE of a DAY: the ENTRY.")
    static void p56Paid() {
        ValueDays x = Check.told(TEXT + "close;");
        Check.due("the least, the first day", x.pay(0, 1), 2);
        Check.due("the most, the last day", x.pay(19, 99999), 3);
        Check.due("acts", x.count(7), 2);
        long[] want = {0, 99999, 19, 1, -1, -1};
        for (int what = 0; what < 6; what++) {
            Check.due("entry, " + what, x.entry(3, what), want[what]);
        }
        Check.due("balance", x.balance(19), 1000 + 10 + 1 + 99999);
        // Thirty are the most of a text, not of acts.
        x = Check.told(HEAD + "pay 0 1;".repeat(30));
        Check.due("behind thirty", x.pay(0, 1), 30);
    }

    @Says(at = "56", text = "-2: there are none such (1 .. 99999); -5: no PERIOD is open, there were 20 acts.")
    static void p56PayRefused() {
        ValueDays x = Check.told(TEXT);
        for (int day : Check.outside(0, 19)) {
            Check.due("day " + day, x.pay(day, 1), -2);
        }
        for (int amount : Check.outside(1, 99999)) {
            Check.due("amount " + amount, x.pay(0, amount), -2);
        }
        stays("-2", x, 0, 1);
        Check.due("no book", new ValueDays().pay(0, 1), -2);
        x = Check.told(CLOSED);
        Check.due("none is open", x.pay(0, 1), -5);
        stays("none open", x, 0, 3);
        x = withActs(TEXT, 20);
        Check.due("20 acts", x.pay(0, 1), -5);
        stays("20 acts", x, 20, 1);
        Check.due("none such comes first", x.pay(20, 1), -2);
        Check.due("the twentieth", withActs(TEXT, 19).pay(0, 1), 1);
    }

    @Says(at = "57", text = "An act: drawn: likewise.")
    static void p57DrawnLikewise() {
        ValueDays x = Check.told(TEXT + "close;");
        Check.due("the least, the first day", x.draw(0, 1), 2);
        Check.due("the most, the last day", x.draw(19, 99999), 3);
        Check.due("acts", x.count(7), 2);
        long[] want = {0, -99999, 19, 1, -1, -1};
        for (int what = 0; what < 6; what++) {
            Check.due("entry, " + what, x.entry(3, what), want[what]);
        }
        Check.due("behind thirty", Check.told(HEAD + "draw 0 1;".repeat(30)).draw(0, 1), 30);
        x = Check.told(TEXT);
        for (int day : Check.outside(0, 19)) {
            Check.due("day " + day, x.draw(day, 1), -2);
        }
        for (int amount : Check.outside(1, 99999)) {
            Check.due("amount " + amount, x.draw(0, amount), -2);
        }
        Check.due("below 0", x.draw(0, -5), -2);
        stays("-2", x, 0, 1);
        Check.due("no book", new ValueDays().draw(0, 1), -2);
        x = Check.told(CLOSED);
        Check.due("none is open", x.draw(0, 1), -5);
        stays("none open", x, 0, 3);
        x = withActs(TEXT, 20);
        Check.due("20 acts", x.draw(0, 1), -5);
        stays("20 acts", x, 20, 1);
        Check.due("none such comes first", x.draw(0, 0), -2);
        Check.due("the twentieth", withActs(TEXT, 19).draw(0, 1), 1);
    }

    // ---- 58: reverse

    @Says(at = "58", text = "An act: an ENTRY of SORT 0 is turned back: one of SORT 3 of the amount turned over, of its VALUE day: its number.")
    static void p58TurnedBack() {
        ValueDays x = Check.told(HEAD + "pay 7 99999;draw 19 5;close;");
        Check.due("paid", x.reverse(0), 3);
        Check.due("drawn", x.reverse(1), 4);
        long[][] want = {{3, -99999, 7, 1, -1, 0}, {3, 5, 19, 1, -1, 1}};
        for (int what = 0; what < 6; what++) {
            Check.due("of the paid one, " + what, x.entry(3, what), want[0][what]);
            Check.due("of the drawn one, " + what, x.entry(4, what), want[1][what]);
        }
        Check.due("acts", x.count(7), 2);
        Check.due("balance", x.balance(19), 0);
        Check.due("one that came by hand", x.reverse(x.pay(0, 5)), 6);
        x.undo();
        Check.due("taken back, and turned back anew", x.reverse(5), 6);
    }

    @Says(at = "58", text = "-2: there is none such; -5: it is of another SORT, is turned back already, no PERIOD is open, there were 20 acts.")
    static void p58ReverseRefused() {
        ValueDays x = Check.told(HEAD.replace("periods 2", "periods 3") + "tier 3600;pay 0 1000;close;pay 0 1000;rerun;");
        for (int entry : Check.outside(0, 3)) {
            Check.due("entry " + entry, x.reverse(entry), -2);
        }
        Check.due("interest", x.reverse(1), -5);
        Check.due("a correction", x.reverse(3), -5);
        Check.due("no acts", x.count(7), 0);
        Check.due("turned back", x.reverse(2), 4);
        Check.due("already", x.reverse(2), -5);
        Check.due("what turns it back", x.reverse(4), -5);
        Check.due("one act", x.count(7), 1);
        Check.due("entries", x.count(5), 5);
        Check.due("no entries", Check.told(HEAD).reverse(0), -2);
        Check.due("no book", new ValueDays().reverse(0), -2);
        x = Check.told(CLOSED);
        Check.due("none is open", x.reverse(0), -5);
        Check.due("none such comes first", x.reverse(3), -2);
        stays("none open", x, 0, 3);
        x = withActs(TEXT, 20);
        Check.due("20 acts", x.reverse(0), -5);
        Check.due("none such comes first", x.reverse(1), -2);
        stays("20 acts", x, 20, 1);
        Check.due("the twentieth", withActs(TEXT, 19).reverse(0), 1);
    }

    // ---- 59: change

    @Says(at = "59", text = "An act: a CHANGE: from a DAY on, which 0 .. 3 the RATE of a TIER, 4 of what is owed, 5 above LIMIT, 6 LIMIT, is v:"
        + " how many CHANGES there are.")
    static void p59Changed() {
        ValueDays x = Check.told(HEAD + "tier 1 to 1;tier 2 to 2;tier 3 to 3;tier 4;debit 5 over 6 limit 7;from 9 tier 3 8;");
        for (int which = 0; which < 7; which++) {
            Check.due("change " + which, x.change(5, which, 100 + which), which + 2);
        }
        for (int tier = 0; tier < 4; tier++) {
            Check.due("tier " + tier + " ahead of it", x.rate(tier, 4), tier + 1);
            Check.due("tier " + tier, x.rate(tier, 5), 100 + tier);
        }
        for (int what = 0; what < 3; what++) {
            Check.due("owing " + what + " ahead of it", x.owing(4, what), 5 + what);
            Check.due("owing " + what, x.owing(19, what), 104 + what);
        }
        Check.due("a later one that was told stays", x.rate(3, 9), 8);
        Check.due("acts", x.count(7), 7);
        Check.due("changes", x.count(4), 8);
        Check.due("the most", x.change(19, 6, 99999), 9);
        Check.due("the most", x.change(19, 0, 5000), 10);
        Check.due("the least", x.change(0, 6, 0), 11);
        Check.due("the least", x.change(0, 4, 0), 12);
        Check.due("twelve are the most of a text, not of acts", x.change(0, 5, 5000), 13);
        Check.due("it counts", x.owing(0, 1), 5000);
        x = Check.told(HEAD + "from 0 limit 1;".repeat(12));
        for (int i = 1; i <= 20; i++) {
            Check.due("behind twelve", x.change(0, 6, 100 + i), 12 + i);
            Check.due("the last told", x.owing(19, 2), 100 + i);
        }
        Check.due("changes", x.count(4), 32);
        x = Check.told(CLOSED);
        Check.due("no period is open", x.change(0, 0, 0), 1);
        Check.due("closed ones are as they were", x.wrong(0), -10);
    }

    @Says(at = "59", text = "-2: there are none such (bounds as in I); -5: there were 20 acts.")
    static void p59ChangeRefused() {
        ValueDays x = Check.told(TEXT);
        for (int day : Check.outside(0, 19)) {
            Check.due("day " + day, x.change(day, 0, 1), -2);
        }
        for (int which : Check.outside(0, 6)) {
            Check.due("which " + which, x.change(0, which, 1), -2);
        }
        for (int tier = 1; tier < 4; tier++) {
            Check.due("no tier " + tier, x.change(0, tier, 1), -2);
        }
        for (int which : new int[] {0, 4, 5}) {
            for (int rate : Check.outside(0, 5000)) {
                Check.due("rate " + rate, x.change(0, which, rate), -2);
            }
        }
        for (int limit : Check.outside(0, 99999)) {
            Check.due("limit " + limit, x.change(0, 6, limit), -2);
        }
        Check.due("changes", x.count(4), 0);
        Check.due("rate", x.rate(0, 0), 3600);
        stays("-2", x, 0, 1);
        Check.due("no tiers", Check.told(HEAD).change(0, 0, 1), -2);
        Check.due("no book", new ValueDays().change(0, 4, 1), -2);
        x = withActs(TEXT, 20);
        Check.due("20 acts", x.change(0, 0, 1), -5);
        Check.due("none such comes first", x.change(0, 7, 1), -2);
        Check.due("changes", x.count(4), 20);
        stays("20 acts", x, 20, 1);
        Check.due("the twentieth", withActs(TEXT, 19).change(0, 0, 1), 20);
    }

    // ---- 60, 61: close, rerun

    @Says(at = "60", text = "An act: the open PERIOD is CLOSED: it.")
    static void p60Closed() {
        ValueDays x = Check.told(TEXT);
        Check.due("the first", x.close(), 0);
        Check.due("its interest", x.entry(1, 1), 10);
        Check.due("the last", x.close(), 1);
        Check.due("closed", x.count(6), 2);
        Check.due("acts", x.count(7), 2);
        Check.due("behind a line", Check.told(TEXT + "close;").close(), 1);
    }

    @Says(at = "60", text = "-2: there is no BOOK; -5: none is open, there were 20 acts.")
    static void p60CloseRefused() {
        Check.due("no book", new ValueDays().close(), -2);
        ValueDays x = Check.told(CLOSED);
        Check.due("none is open", x.close(), -5);
        stays("none open", x, 0, 3);
        x = withActs(TEXT, 20);
        Check.due("20 acts", x.close(), -5);
        Check.due("still open", x.count(6), 0);
        stays("20 acts", x, 20, 1);
        Check.due("the twentieth", withActs(TEXT, 19).close(), 0);
    }

    @Says(at = "61", text = "An act: RERUN: how many ENTRIES are booked.")
    static void p61RunAnew() {
        ValueDays x = Check.told(HEAD.replace("periods 2", "periods 3") + "tier 3600;pay 0 50000;close;close;");
        Check.due("nothing unlike: none", x.rerun(), 0);
        Check.due("an act all the same", x.count(7), 1);
        x.pay(0, 50000);
        Check.due("two", x.rerun(), 2);
        Check.due("acts", x.count(7), 3);
        x.pay(10, 50000);
        Check.due("one", x.rerun(), 1);
        Check.due("none closed", Check.told(TEXT).rerun(), 0);
        // Six are the most of a text, not of acts.
        x = Check.told(TEXT + "rerun;".repeat(6) + "close;");
        x.pay(0, 1000);
        Check.due("a seventh", x.rerun(), 1);
    }

    @Says(at = "61", text = "-2: there is no BOOK; -5 likewise.")
    static void p61RerunRefused() {
        Check.due("no book", new ValueDays().rerun(), -2);
        ValueDays x = Check.told(CLOSED);
        x.change(0, 0, 0);
        String before = Picture.of(x);
        Check.due("none is open", x.rerun(), -5);
        Check.due("nothing put right", x.wrong(0), -10);
        Check.same("none open", x, before);
        x = withActs(TEXT, 20);
        Check.due("20 acts", x.rerun(), -5);
        stays("20 acts", x, 20, 1);
        Check.due("the twentieth", withActs(TEXT, 19).rerun(), 0);
    }

    // ---- 62, 63: images

    @Says(at = "62", text = "IMAGE k (0 .. 2) keeps the BOOK, acts: 0.")
    static void p62ImageKeeps() {
        ValueDays x = Check.told(TEXT);
        for (int k = 0; k < 3; k++) {
            Check.due("image " + k, x.image(k), 0);
            x.pay(0, k + 1);
        }
        for (int k = 0; k < 3; k++) {
            Check.due("back " + k, x.back(k), 0);
            Check.due("its acts", x.count(7), k);
        }
        Check.due("in place of another", x.image(0), 0);
        x.anew();
        x.back(0);
        Check.due("the later one", x.count(7), 2);
        Check.due("the others stay", x.back(1) + x.count(7), 1);
        x = withActs(TEXT, 20);
        Check.due("20 acts are no bar", x.image(0), 0);
        x.anew();
        x.back(0);
        Check.due("all of them", x.count(7), 20);
        Check.due("an image is no act", x.change(0, 0, 1), -5);
    }

    @Says(at = "62", text = "-2: no such k, no BOOK.")
    static void p62NoSuchImageOrNoBook() {
        ValueDays x = Check.told(TEXT);
        for (int k : Check.outside(0, 2)) {
            Check.due("image " + k, x.image(k), -2);
        }
        for (int k = 0; k < 3; k++) {
            Check.due("no book, image " + k, new ValueDays().image(k), -2);
            Check.due("nothing kept by what was refused", x.back(k), -6);
        }
        x.image(0);
        Check.tell(x, "");
        Check.due("no book any more", x.image(0), -2);
        Check.due("what it had stays", x.back(0), 0);
        Check.due("lines", x.count(8), 3);
    }

    @Says(at = "63", text = "They are as IMAGE k has them: 0.")
    static void p63Back() {
        ValueDays x = Check.told(TEXT);
        x.close();
        x.pay(0, 500);
        x.change(5, 0, 1800);
        x.image(1);
        String kept = Picture.of(x);
        Check.tell(x, "book days 2 periods 1 compound 3;");
        x.pay(0, 7);
        Check.due("back", x.back(1), 0);
        Check.same("back", x, kept);
        Check.tell(x, "book days 40 periods 8 compound 4;tier 1 to 2;tier 3;debit 4 over 5 limit 6;pay 0 7;close;");
        Check.feed(x, "abc");
        Check.due("back", x.back(1), 0);
        int[] counts = {10, 2, 1, 1, 1, 3, 1, 3, 3, 3};
        for (int what = 0; what < 10; what++) {
            Check.due("count " + what, x.count(what), counts[what]);
        }
        Check.due("its acts can be taken back", x.undo(), 2);
        Check.due("the image stays", x.back(1) + x.count(7), 3);
        x.end(0);
        Check.due("without a book, too", x.book(), 0);
        Check.due("back", x.back(1), 0);
        Check.due("its changes", x.rate(0, 5), 1800);
    }

    @Says(at = "63", text = "-2: no such k; -6: it has nothing.")
    static void p63NoSuchImageOrNothing() {
        ValueDays x = Check.told(TEXT);
        String before = Picture.of(x);
        for (int k : Check.outside(0, 2)) {
            Check.due("back " + k, x.back(k), -2);
            Check.due("without a book " + k, new ValueDays().back(k), -2);
        }
        x.image(1);
        Check.due("0 has nothing", x.back(0), -6);
        Check.due("2 has nothing", x.back(2), -6);
        Check.same("-2, -6", x, before);
        Check.due("1 has", x.back(1), 0);
        stays("-6", x, 0, 1);
        Check.due("without a book", new ValueDays().back(0), -6);
    }

    // ---- 64, 65: undo, anew

    @Says(at = "64", text = "The latest act is taken back: how many there are.")
    static void p64TheLatestActIsTakenBack() {
        ValueDays x = Check.told(TEXT);
        x.close();
        x.pay(0, 500);
        x.rerun();
        x.reverse(2);
        x.change(0, 0, 0);
        Check.due("the change", x.undo(), 4);
        Check.due("rate", x.rate(0, 0), 3600);
        Check.due("what was turned back", x.undo(), 3);
        Check.due("balance", x.balance(0), 1500);
        Check.due("the rerun", x.undo(), 2);
        Check.due("wrong again", x.wrong(0), 5);
        Check.due("the pay", x.undo(), 1);
        Check.due("entries", x.count(5), 2);
        Check.due("the close", x.undo(), 0);
        Check.due("open again", x.count(6), 0);
        stays("all", x, 0, 1);
        actsAndBack(Check.told(TEXT));
        actsAndBack(Check.told("book days 10 periods 3 compound 2;tier 3600 to 500;tier 1800;debit 3600 over 5000 limit 9;pay 5 600;"));
        x = withActs(TEXT, 20);
        Check.due("of twenty", x.undo(), 19);
        Check.due("room for one", x.pay(0, 1), 1);
        Check.due("and no more", x.pay(0, 1), -5);
    }

    @Says(at = "64", text = "-2: there is no BOOK; -5: there is none.")
    static void p64UndoRefused() {
        Check.due("no book", new ValueDays().undo(), -2);
        ValueDays x = Check.told(TEXT);
        Check.due("none", x.undo(), -5);
        stays("none", x, 0, 1);
        Check.due("lines are no acts", Check.told(CLOSED).undo(), -5);
        x.pay(0, 1);
        x.undo();
        Check.due("none any more", x.undo(), -5);
    }

    @Says(at = "65", text = "All are: how many there were.")
    static void p65AllAreTakenBack() {
        ValueDays x = Check.told(TEXT);
        String before = Picture.of(x);
        Check.due("none", x.anew(), 0);
        Check.same("none", x, before);
        x.close();
        x.pay(0, 500);
        x.rerun();
        Check.due("three", x.anew(), 3);
        stays("three", x, 0, 1);
        Check.same("three", x, before);
        Check.due("open again", x.count(6), 0);
        x = withActs(CLOSED, 20);
        Check.due("twenty", x.anew(), 20);
        stays("twenty", x, 0, 3);
        Check.due("room again", x.change(0, 0, 1), 1);
        Check.due("one", x.anew(), 1);
    }

    @Says(at = "65", text = "-2 likewise.")
    static void p65AnewRefused() {
        Check.due("no book", new ValueDays().anew(), -2);
        ValueDays x = Check.told(TEXT);
        x.pay(0, 1);
        Check.tell(x, "");
        Check.due("no book any more", x.anew(), -2);
    }
}
