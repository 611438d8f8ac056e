/** Each sentence of promises 1 to 20, with the edges it names. Rate 3600: 1 of 1000 a day. */
public final class Sentences01To20Test {
    private static final String HEAD = "book days 10 periods 2 compound 1;";
    private static final int BLANKS = 0x20202020;
    // Entries: 0 paid, 1 drawn, 2 interest: 5 and 3.5, 3 paid, 4 the correction: 28.5 less 9.
    private static final String TEXT = "book days 10 periods 3 compound 2;tier 3600;debit 1800 over 3600 limit 500;"
        + "pay 0 1000;draw 5 300;close;pay 0 2000;rerun;";

    public static void main(String[] args) throws Exception {
        Sentences.run(Sentences01To20Test.class, Sentences.promises(1, 20));
    }

    private static int feedBlanks(ValueDays x) {
        return x.feed(BLANKS, BLANKS, BLANKS, BLANKS, BLANKS);
    }

    // ---- 1: a new object

    @Says(at = "1", text = "No BOOK.")
    static void p01NewObjectHasNoBook() {
        ValueDays x = new ValueDays();
        for (int what = 0; what < 10; what++) {
            Check.due("count " + what, x.count(what), 0);
        }
        Check.due("steps", x.steps(), -2);
        Check.due("lowest", x.lowest(), Check.NO_SUCH);
        Check.due("all", x.all(), Check.NO_SUCH);
        Check.due("settled", x.settled(), Check.NO_SUCH);
        Check.due("oldest", x.oldest(), -2);
        Check.due("close", x.close(), -2);
        Check.due("image", x.image(0), -2);
        Check.due("no image", x.back(0), -6);
        Check.due("no acts", x.undo(), -2);
        Check.due("two objects do not meet", Check.told(HEAD).count(8) + x.count(8), 1);
    }

    // ---- 2: feed

    @Says(at = "2", text = "Twenty bytes come behind the TAPE, four of each number, the highest first: how many it has;")
    static void p02TwentyBytesTheHighestFirst() {
        ValueDays x = new ValueDays();
        Check.due("book days 10 periods", x.feed(0x626f6f6b, 0x20646179, 0x73203130, 0x20706572, 0x696f6473), 20);
        Check.due(" 2 compound 1;pay 12", x.feed(0x20322063, 0x6f6d706f, 0x756e6420, 0x313b7061, 0x79203132), 40);
        Check.due(" 3456;", x.feed(0x20333435, 0x363b2020, BLANKS, BLANKS, BLANKS), 60);
        Check.due("book", x.book(), 2);
        Check.due("day", x.entry(0, 2), 12);
        Check.due("amount", x.entry(0, 1), 3456);
        // Numbers below 0, 0, and the highest have four bytes, too: each is a place of its own.
        int[] strange = {-1, 0, Integer.MIN_VALUE, Integer.MAX_VALUE, 0x80818283};
        for (int number : strange) {
            for (int at = 0; at < 5; at++) {
                int[] n = {BLANKS, BLANKS, BLANKS, BLANKS, BLANKS};
                n[at] = number;
                Check.due("feed", x.feed(n[0], n[1], n[2], n[3], n[4]), 20);
                Check.due("book", x.book(), -4);
                Check.due("fault", x.fault(0), 1);
                Check.due("place", x.fault(1), 4 * at);
            }
        }
        for (int at = 0; at < 4; at++) {
            Check.due("feed", x.feed(BLANKS, BLANKS ^ 0xff << 8 * (3 - at), BLANKS, BLANKS, BLANKS), 20);
            Check.due("book", x.book(), -4);
            Check.due("the byte's place", x.fault(1), 4 + at);
        }
    }

    @Says(at = "2", text = "NONE, and none come, if it would have more than 900.")
    static void p02NoneComeBeyond900() {
        ValueDays x = new ValueDays();
        for (int i = 1; i <= 45; i++) {
            Check.due("feed " + i, feedBlanks(x), 20 * i);
        }
        Check.due("at 900", x.feed(0, 0, 0, 0, 0), -1);
        Check.due("none came", x.count(9), 900);
        Check.due("none of them", x.book(), 0);
        Check.due("room again", feedBlanks(x), 20);
        for (int had = 881; had < 900; had++) {
            x = new ValueDays();
            Check.feed(x, " ".repeat(900));
            x.end(had);
            Check.due("at " + had, x.feed(0, 0, 0, 0, 0), -1);
            Check.due("none came at " + had, x.count(9), had);
            Check.due("not one of them at " + had, x.book(), 0);
        }
        Check.feed(x, " ".repeat(880));
        Check.due("at 880", feedBlanks(x), 900);
        x = new ValueDays();
        Check.feed(x, HEAD + " ".repeat(900 - 34 - 8) + "pay 0 7;");
        Check.due("refused", x.feed(0, 0, 0, 0, 0), -1);
        Check.due("what was there stays", x.book(), 2);
        Check.due("up to its last byte", x.balance(0), 7);
    }

    // ---- 3: end

    @Says(at = "3", text = "The TAPE has its first n bytes alone: n;")
    static void p03FirstBytesAlone() {
        ValueDays x = new ValueDays();
        Check.due("0 of 0", x.end(0), 0);
        Check.feed(x, HEAD + "pay 0 12;pay 0 5;");
        Check.due("all", x.end(51), 51);
        Check.due("fewer", x.end(41), 41);
        Check.due("bytes", x.count(9), 41);
        Check.feed(x, "4;");
        Check.due("the first, then what came behind", x.book(), 2);
        Check.due("1 and 4", x.balance(0), 14);
        Check.feed(x, HEAD + "close;");
        Check.due("one less", x.end(39), 39);
        Check.due("no sign", x.book(), -4);
        Check.due("its end", x.fault(1), 39);
        feedBlanks(x);
        Check.due("none", x.end(0), 0);
        Check.due("bytes", x.count(9), 0);
        Check.feed(x, " ".repeat(900));
        Check.due("900", x.end(900), 900);
    }

    @Says(at = "3", text = "NONE, and nothing happens, if it has not so many, or n is below 0.")
    static void p03NotSoManyOrBelow0() {
        ValueDays x = new ValueDays();
        Check.due("1 of 0", x.end(1), -1);
        Check.due("-1 of 0", x.end(-1), -1);
        Check.feed(x, HEAD);
        for (int n : Check.outside(0, 34)) {
            Check.due("end(" + n + ")", x.end(n), -1);
            Check.due("bytes stay", x.count(9), 34);
        }
        Check.due("all stays", x.book(), 1);
        // What was cut off does not come back.
        Check.feed(x, HEAD);
        Check.due("fewer", x.end(5), 5);
        Check.due("more again", x.end(6), -1);
        Check.due("bytes", x.count(9), 5);
    }

    // ---- 4: book

    @Says(at = "4", text = "The TAPE (empty then) tells the BOOK, LINE by LINE (in place of another), no acts: how many LINES (0: there is none then).")
    static void p04TheTapeTellsTheBook() {
        ValueDays x = new ValueDays();
        Check.due("lines", Check.tell(x, HEAD + "tier 5;pay 0 9;close;"), 4);
        Check.due("the tape is empty", x.count(9), 0);
        x.pay(0, 5);
        x.image(1);
        Check.due("in place of another", Check.tell(x, "book days 3 periods 4 compound 2;"), 1);
        int[] counts = {3, 4, 2, 0, 0, 0, 0, 0, 1, 0};
        for (int what = 0; what < 10; what++) {
            Check.due("count " + what, x.count(what), counts[what]);
        }
        Check.due("no acts to take back", x.undo(), -5);
        x.pay(0, 5);
        Check.due("an empty tape", x.book(), 0);
        for (int what = 0; what < 10; what++) {
            Check.due("none then: count " + what, x.count(what), 0);
        }
        Check.due("none then", x.steps(), -2);
        Check.due("none then", x.balance(0), Check.NO_SUCH);
        Check.due("none then", x.entry(0, 0), Check.NO_SUCH);
        Check.due("none then", x.rate(0, 0), -1);
        Check.due("none then", x.anew(), -2);
        Check.due("an image stays", x.back(1), 0);
        Check.due("its lines", x.count(8), 4);
        Check.due("its act", x.count(7), 1);
        // All that can be told of each, again and again: nothing of one is left in the next.
        String most = "book days 2 periods 8 compound 1;tier 1 to 1;tier 1 to 2;tier 1 to 3;tier 1;debit 5 over 6 limit 7;"
            + "from 0 limit 8;".repeat(12) + "pay 0 1;".repeat(30) + "rerun;".repeat(6) + "close;".repeat(8);
        Check.due("the most lines", Check.tell(x, most), 62);
        Check.due("and again", Check.tell(x, most), 62);
        Check.due("a fault behind them", Check.tell(x, most + "x"), -4);
        Check.due("and again", Check.tell(x, most), 62);
        Check.due("a tier up to the last", Check.tell(x, HEAD + "tier 1 to 99999;"), 2);
        Check.due("a lower one in the next", Check.tell(x, HEAD + "tier 1 to 1;tier 2;"), 3);
        Check.due("a first one in the next", Check.tell(x, HEAD + "tier 3;"), 2);
        for (int what = 0; what < 3; what++) {
            Check.due("no debit is told: owing " + what, x.owing(0, what) + x.owing(19, what), 0);
        }
    }

    @Says(at = "4", text = "-4: a FAULT (all else stays).")
    static void p04AFaultAndAllElseStays() {
        ValueDays x = Check.told(TEXT);
        x.pay(1, 4);
        x.image(0);
        x.pay(2, 5);
        String before = Picture.of(x);
        Check.due("a fault in the first line", Check.tell(x, "book days 1"), -4);
        Check.same("a fault in the first line", x, before);
        Check.due("a fault in the last line", Check.tell(x, HEAD + "tier 1;debit 1 over 1 limit 1;pay 0 8;close;pay 20 7;"), -4);
        Check.same("a fault in the last line", x, before);
        Check.due("the tape is empty", x.count(9), 0);
        int[] counts = {10, 3, 2, 1, 0, 7, 1, 2, 8, 0};
        for (int what = 0; what < 10; what++) {
            Check.due("count " + what, x.count(what), counts[what]);
        }
        Check.due("balance", x.balance(2), 3009);
        Check.due("rate", x.rate(0, 0), 3600);
        Check.due("undo", x.undo(), 1);
        Check.due("undo by the old lines", x.balance(2), 3004);
        Check.due("the image", x.back(0), 0);
        Check.due("its acts", x.count(7), 1);
        x = new ValueDays();
        Check.due("a fault without a book", Check.tell(x, "x"), -4);
        Check.due("still none", x.steps(), -2);
    }

    // ---- 5: fault

    @Says(at = "5", text = "Of the latest book(), what 0: its FAULT, 0 without, 1: its place (NONE without).")
    static void p05FaultOfTheLatestBook() {
        ValueDays x = new ValueDays();
        int[][] want = {{1, 0}, {2, 10}, {3, 41}, {0, -1}, {0, -1}, {1, 34}};
        String[] texts = {"x", "book days 1", HEAD + "tier 5;tier 5;", HEAD, "", HEAD + ";"};
        for (int i = 0; i < texts.length; i++) {
            Check.tell(x, texts[i]);
            Check.due("fault of " + texts[i], x.fault(0), want[i][0]);
            Check.due("place of " + texts[i], x.fault(1), want[i][1]);
        }
        Check.feed(x, "y");
        x.end(0);
        Check.due("no other call changes it", x.fault(0), 1);
        Check.due("asked again", x.fault(1), 34);
        x.pay(0, 1);
        x.image(0);
        x.back(0);
        Check.due("an image does not", x.fault(1), 34);
    }

    @Says(at = "5", text = "NONE for another what, and ahead of any (what 1).")
    static void p05NoneForAnotherWhatAndAheadOfAny() {
        ValueDays x = new ValueDays();
        Check.due("ahead of any", x.fault(1), -1);
        Check.due("0 ahead of any", x.fault(0), 0);
        for (int what : Check.outside(0, 1)) {
            Check.due("ahead of any, " + what, x.fault(what), -1);
        }
        Check.tell(x, "x");
        for (int what : Check.outside(0, 1)) {
            Check.due("behind a fault, " + what, x.fault(what), -1);
        }
        Check.tell(x, HEAD);
        for (int what : Check.outside(0, 1)) {
            Check.due("without, " + what, x.fault(what), -1);
        }
    }

    // ---- 6: count

    @Says(at = "6", text = "0 P, 1 PERIODS, 2 K, 3 TIERS, 4 CHANGES, 5 ENTRIES, 6 PERIODS closed, 7 acts, 8 LINES, 9 bytes of the TAPE.")
    static void p06Counts() {
        ValueDays x = Check.told("book days 40 periods 8 compound 4;tier 1 to 2;tier 3;from 0 limit 4;pay 0 1;draw 0 1;pay 0 1;close;close;");
        feedBlanks(x);
        x.change(0, 0, 5);
        int[] counts = {40, 8, 4, 2, 2, 5, 2, 1, 9, 20};
        for (int what = 0; what < 10; what++) {
            Check.due("count " + what, x.count(what), counts[what]);
        }
        x.compounded(1);
        Check.due("K stays", x.count(2), 4);
    }

    @Says(at = "6", text = "NONE for others.")
    static void p06NoneForOthers() {
        for (int what : Check.outside(0, 9)) {
            Check.due("count " + what, Check.told(HEAD).count(what), -1);
            Check.due("without a book " + what, new ValueDays().count(what), -1);
        }
    }

    // ---- 7: entry

    @Says(at = "7", text = "Of an ENTRY, what 0: SORT, 1: amount, 2: VALUE day, 3: the PERIOD in which it is booked,"
        + " 4: the PERIOD it is of (SORT 1, 2; else NONE), 5: the ENTRY that it turns back (SORT 3; else NONE).")
    static void p07WhatIsToldOfAnEntry() {
        ValueDays x = Check.told(TEXT);
        Check.due("turned back", x.reverse(0), 5);
        Check.due("turned back", x.reverse(1), 6);
        long[][] want = {{0, 1000, 0, 0, -1, -1}, {0, -300, 5, 0, -1, -1}, {1, 9, 20, 0, 0, -1}, {0, 2000, 0, 1, -1, -1},
            {2, 20, 20, 1, 0, -1}, {3, -1000, 0, 1, -1, 0}, {3, 300, 5, 1, -1, 1}};
        for (int entry = 0; entry < want.length; entry++) {
            for (int what = 0; what < 6; what++) {
                Check.due("entry " + entry + ", " + what, x.entry(entry, what), want[entry][what]);
            }
        }
    }

    @Says(at = "7", text = "NO_SUCH: there are none such.")
    static void p07NoSuchEntryOrWhat() {
        ValueDays x = Check.told(TEXT);
        for (int entry : Check.outside(0, 4)) {
            Check.due("entry " + entry, x.entry(entry, 0), Check.NO_SUCH);
        }
        for (int what : Check.outside(0, 5)) {
            Check.due("what " + what, x.entry(0, what), Check.NO_SUCH);
        }
        Check.due("no entries", Check.told(HEAD).entry(0, 0), Check.NO_SUCH);
        Check.due("no book", new ValueDays().entry(0, 0), Check.NO_SUCH);
        x.pay(0, 1);
        x.undo();
        Check.due("taken back", x.entry(5, 0), Check.NO_SUCH);
    }

    // ---- 8: sorted

    @Says(at = "8", text = "The k-th ENTRY (from 0) by VALUE days, of like ones by number.")
    static void p08SortedByValueDaysThenNumber() {
        ValueDays x = Check.told(HEAD + "pay 19 1;pay 5 2;close;draw 5 3;pay 0 4;pay 10 5;pay 5 6;");
        int[] order = {4, 1, 3, 6, 2, 5, 0};
        for (int k = 0; k < order.length; k++) {
            Check.due("sorted " + k, x.sorted(k), order[k]);
        }
        x.pay(0, 7);
        Check.due("behind its like", x.sorted(1), 7);
        x.undo();
        Check.due("taken back", x.sorted(1), 1);
        // Behind the last day, too.
        x = Check.told(HEAD + "close;close;");
        Check.due("day 10", x.sorted(0), 0);
        Check.due("day 20", x.sorted(1), 1);
    }

    @Says(at = "8", text = "NONE: there are not so many; -2: k is below 0, there is no BOOK.")
    static void p08NotSoManyOrNone() {
        ValueDays x = Check.told(TEXT);
        Check.due("the last", x.sorted(4), 4);
        Check.due("behind it", x.sorted(5), -1);
        Check.due("far", x.sorted(Integer.MAX_VALUE), -1);
        Check.due("below 0", x.sorted(-1), -2);
        Check.due("far below 0", x.sorted(Integer.MIN_VALUE), -2);
        Check.due("no entries", Check.told(HEAD).sorted(0), -1);
        Check.due("no book", new ValueDays().sorted(0), -2);
    }

    // ---- 9, 10: rate, owing

    @Says(at = "9", text = "RATE of a TIER on a DAY.")
    static void p09RateOnADay() {
        ValueDays x = Check.told(HEAD + "tier 0 to 5;tier 5000;from 19 tier 0 5000;from 1 tier 1 0;");
        Check.due("first day", x.rate(0, 0), 0);
        Check.due("the day ahead", x.rate(0, 18), 0);
        Check.due("last day", x.rate(0, 19), 5000);
        Check.due("tier 1", x.rate(1, 0), 5000);
        Check.due("tier 1", x.rate(1, 1), 0);
    }

    @Says(at = "9", text = "NONE: there are none such.")
    static void p09NoSuchTierOrDay() {
        ValueDays x = Check.told(HEAD + "tier 1 to 5;tier 2;");
        for (int tier : Check.outside(0, 1)) {
            Check.due("tier " + tier, x.rate(tier, 0), -1);
        }
        for (int day : Check.outside(0, 19)) {
            Check.due("day " + day, x.rate(0, day), -1);
        }
        Check.due("no tiers", Check.told(HEAD).rate(0, 0), -1);
        Check.due("no book", new ValueDays().rate(0, 0), -1);
        x = Check.told(HEAD + "tier 1 to 1;tier 2 to 2;tier 3 to 3;tier 4 to 4;debit 5 over 6 limit 7;");
        Check.due("tier 4 is none, though something is owed by a rate", x.rate(4, 0), -1);
    }

    @Says(at = "10", text = "What holds for what is owed on a DAY, what 0: RATE within LIMIT, 1: above it, 2: LIMIT.")
    static void p10WhatHoldsForWhatIsOwed() {
        ValueDays x = Check.told(HEAD + "debit 1 over 2 limit 3;from 19 debit 4;from 19 over 5;from 19 limit 99999;");
        for (int what = 0; what < 3; what++) {
            Check.due("day 0, " + what, x.owing(0, what), what + 1);
            Check.due("day 18, " + what, x.owing(18, what), what + 1);
        }
        Check.due("day 19", x.owing(19, 0), 4);
        Check.due("day 19", x.owing(19, 1), 5);
        Check.due("day 19", x.owing(19, 2), 99999);
    }

    @Says(at = "10", text = "NONE likewise.")
    static void p10NoSuchDayOrWhat() {
        ValueDays x = Check.told(HEAD + "debit 1 over 2 limit 3;");
        for (int day : Check.outside(0, 19)) {
            for (int what = 0; what < 3; what++) {
                Check.due("day " + day, x.owing(day, what), -1);
            }
        }
        for (int what : Check.outside(0, 2)) {
            Check.due("what " + what, x.owing(0, what), -1);
        }
        Check.due("no book", new ValueDays().owing(0, 0), -1);
    }

    // ---- 11 to 13: balance, part, product

    @Says(at = "11", text = "BALANCE of a DAY.")
    static void p11BalanceOfADay() {
        ValueDays x = Check.told(HEAD + "pay 19 5;draw 1 7;");
        long[] want = {0, -7, -7, -2};
        int[] days = {0, 1, 18, 19};
        for (int i = 0; i < days.length; i++) {
            Check.due("day " + days[i], x.balance(days[i]), want[i]);
        }
        x = Check.told(HEAD + "pay 0 99999;".repeat(30));
        for (int i = 0; i < 20; i++) {
            x.pay(0, 99999);
        }
        Check.due("the most", x.balance(19), 50L * 99999);
    }

    @Says(at = "11", text = "NO_SUCH: there is none such.")
    static void p11NoSuchDay() {
        ValueDays x = Check.told(HEAD);
        for (int day : Check.outside(0, 19)) {
            Check.due("day " + day, x.balance(day), Check.NO_SUCH);
        }
        Check.due("no book", new ValueDays().balance(0), Check.NO_SUCH);
    }

    @Says(at = "12", text = "PART of a TIER on a DAY; TIERS (as many as there are): what is above all of them;"
        + " TIERS and 1, 2: what is owed within LIMIT, above it.")
    static void p12PartsByNumber() {
        ValueDays x = Check.told(HEAD + "tier 1 to 10;tier 2 to 30;debit 3 over 4 limit 5;pay 0 31;draw 19 37;");
        long[][] want = {{10, 20, 1, 0, 0}, {0, 0, 0, 5, 1}};
        for (int part = 0; part < 5; part++) {
            Check.due("day 0, " + part, x.part(0, part), want[0][part]);
            Check.due("day 18, " + part, x.part(18, part), want[0][part]);
            Check.due("day 19, " + part, x.part(19, part), want[1][part]);
        }
        x = Check.told(HEAD + "debit 3 over 4 limit 5;pay 0 7;draw 1 13;");
        Check.due("no tiers: above all of them", x.part(0, 0), 7);
        Check.due("no tiers: within", x.part(1, 1), 5);
        Check.due("no tiers: above", x.part(1, 2), 1);
        x = Check.told(HEAD + "tier 1 to 1;tier 2 to 2;tier 3 to 3;tier 4 to 4;pay 0 5;draw 1 6;");
        Check.due("four tiers: above all of them", x.part(0, 4), 1);
        Check.due("four tiers: within", x.part(1, 5), 0);
        Check.due("four tiers: above", x.part(1, 6), 1);
    }

    @Says(at = "12", text = "NO_SUCH: there are none such.")
    static void p12NoSuchDayOrTier() {
        ValueDays x = Check.told(HEAD + "tier 1 to 10;tier 2 to 30;pay 0 9;");
        for (int day : Check.outside(0, 19)) {
            Check.due("day " + day, x.part(day, 0), Check.NO_SUCH);
        }
        for (int part : Check.outside(0, 4)) {
            Check.due("part " + part, x.part(0, part), Check.NO_SUCH);
        }
        Check.due("three without tiers", Check.told(HEAD).part(0, 3), Check.NO_SUCH);
        Check.due("no book", new ValueDays().part(0, 0), Check.NO_SUCH);
    }

    @Says(at = "13", text = "PRODUCT of a DAY.")
    static void p13ProductOfADay() {
        ValueDays x = Check.told(HEAD + "tier 7 to 10;tier 9;debit 3 over 4 limit 5;pay 1 12;draw 19 18;");
        Check.due("of nothing", x.product(0), 0);
        Check.due("of tiers", x.product(1), 10 * 7 + 2 * 9);
        Check.due("of what is owed", x.product(19), -(5 * 3 + 4));
    }

    @Says(at = "13", text = "NO_SUCH: there is none such.")
    static void p13NoSuchDay() {
        ValueDays x = Check.told(HEAD);
        for (int day : Check.outside(0, 19)) {
            Check.due("day " + day, x.product(day), Check.NO_SUCH);
        }
        Check.due("no book", new ValueDays().product(0), Check.NO_SUCH);
    }

    // ---- 14 to 18: periods

    @Says(at = "14", text = "PRODUCTS of a PERIOD's DAYS together, what 0: of TIERS alone, 1: of what is owed alone (without sign).")
    static void p14ProductsOfTiersAndOfWhatIsOwed() {
        ValueDays x = Check.told(HEAD + "tier 7;debit 3 over 4 limit 5;pay 0 10;draw 9 16;pay 10 9;");
        Check.due("tiers", x.products(0, 0), 9 * 10 * 7);
        Check.due("owed on the last day alone", x.products(0, 1), 5 * 3 + 4);
        Check.due("tiers", x.products(1, 0), 10 * 3 * 7);
        Check.due("nothing owed", x.products(1, 1), 0);
        x = Check.told(HEAD + "tier 7;debit 3 over 4 limit 5;draw 10 6;pay 11 8;");
        Check.due("owed on the first day of the next alone", x.products(0, 1), 0);
        Check.due("owed on its first day", x.products(1, 1), 5 * 3 + 4);
        Check.due("tiers on its other days", x.products(1, 0), 9 * 2 * 7);
    }

    @Says(at = "14", text = "NO_SUCH: there are none such.")
    static void p14NoSuchPeriodOrWhat() {
        ValueDays x = Check.told(HEAD);
        for (int period : Check.outside(0, 1)) {
            Check.due("period " + period, x.products(period, 0), Check.NO_SUCH);
            Check.due("period " + period, x.products(period, 1), Check.NO_SUCH);
        }
        for (int what : Check.outside(0, 1)) {
            Check.due("what " + what, x.products(0, what), Check.NO_SUCH);
        }
        Check.due("no book", new ValueDays().products(0, 0), Check.NO_SUCH);
    }

    @Says(at = "15", text = "INTEREST of a PERIOD as known now (an open one, too).")
    static void p15FreshOfAnOpenOneToo() {
        ValueDays x = Check.told(HEAD + "tier 3600;pay 0 1000;close;pay 5 1000;");
        Check.due("a closed one as known now", x.fresh(0), 15);
        Check.due("an open one", x.fresh(1), 20);
        x.change(10, 0, 0);
        Check.due("by another rate", x.fresh(1), 0);
    }

    @Says(at = "15", text = "NO_SUCH: there is none such.")
    static void p15NoSuchPeriod() {
        ValueDays x = Check.told(HEAD);
        for (int period : Check.outside(0, 1)) {
            Check.due("period " + period, x.fresh(period), Check.NO_SUCH);
        }
        Check.due("no book", new ValueDays().fresh(0), Check.NO_SUCH);
    }

    @Says(at = "16", text = "ENTRIES of SORT 1, 2 of a PERIOD, together.")
    static void p16BookedInterestAndCorrections() {
        ValueDays x = Check.told("book days 10 periods 3 compound 1;tier 3600;pay 0 1000;close;pay 0 500;rerun;draw 0 1500;rerun;close;");
        Check.due("10, 5, -15", x.booked(0), 0);
        x.undo();
        Check.due("of an open one", x.booked(2), 0);
        x = Check.told("book days 10 periods 3 compound 3;tier 3600;pay 0 1000;close;close;pay 0 500;rerun;");
        Check.due("10, 5", x.booked(0), 15);
        Check.due("10, 5", x.booked(1), 15);
        // Entry 0 turned back is of ENTRY 0, not of PERIOD 0.
        x = Check.told("book days 10 periods 3 compound 3;tier 3600;pay 0 1000;close;");
        x.reverse(0);
        Check.due("not what is turned back", x.booked(0), 10);
    }

    @Says(at = "16", text = "NO_SUCH likewise.")
    static void p16NoSuchPeriod() {
        ValueDays x = Check.told(HEAD + "close;");
        for (int period : Check.outside(0, 1)) {
            Check.due("period " + period, x.booked(period), Check.NO_SUCH);
        }
        Check.due("no book", new ValueDays().booked(0), Check.NO_SUCH);
    }

    @Says(at = "17", text = "What a closed PERIOD's INTEREST is now less what is booked (0 of an open one).")
    static void p17WrongOfAClosedOne() {
        ValueDays x = Check.told(HEAD + "tier 3600;pay 0 1000;");
        Check.due("open", x.wrong(0), 0);
        x.close();
        Check.due("as booked", x.wrong(0), 0);
        x.pay(0, 500);
        Check.due("more", x.wrong(0), 5);
        Check.due("of an open one", x.wrong(1), 0);
        x.draw(0, 1500);
        Check.due("less", x.wrong(0), -10);
        x.rerun();
        Check.due("put right", x.wrong(0), 0);
    }

    @Says(at = "17", text = "NO_SUCH likewise.")
    static void p17NoSuchPeriod() {
        ValueDays x = Check.told(HEAD + "close;");
        for (int period : Check.outside(0, 1)) {
            Check.due("period " + period, x.wrong(period), Check.NO_SUCH);
        }
        Check.due("no book", new ValueDays().wrong(0), Check.NO_SUCH);
    }

    @Says(at = "18", text = "The COMPOUNDING day of a PERIOD (also behind the last DAY).")
    static void p18CompoundsAlsoBehindTheLastDay() {
        ValueDays x = Check.told("book days 40 periods 8 compound 3;");
        int[] days = {120, 120, 120, 240, 240, 240, 360, 360};
        for (int period = 0; period < 8; period++) {
            Check.due("period " + period, x.compounds(period), days[period]);
        }
        Check.due("the day behind the last", Check.told(HEAD).compounds(1), 20);
        Check.due("far behind", Check.told("book days 40 periods 1 compound 4;").compounds(0), 160);
    }

    @Says(at = "18", text = "NONE: there is none such.")
    static void p18NoSuchPeriod() {
        ValueDays x = Check.told(HEAD);
        for (int period : Check.outside(0, 1)) {
            Check.due("period " + period, x.compounds(period), -1);
        }
        Check.due("no book", new ValueDays().compounds(0), -1);
    }

    // ---- 19, 20: pages

    @Says(at = "19", text = "Of a PAGE, what 0: what it opens with, 1: paid, 2: drawn (without sign), 3: SORT 1, 4: SORT 2, 5: SORT 3,"
        + " 6: all that is booked till its end, 7: how many ENTRIES.")
    static void p19WhatAPageTells() {
        ValueDays x = Check.told(TEXT);
        x.reverse(1);
        x.reverse(0);
        long[][] want = {{0, 1000, 300, 9, 0, 0, 709, 3}, {709, 2000, 0, 0, 20, -700, 2029, 4}, {2029, 0, 0, 0, 0, 0, 2029, 0}};
        for (int period = 0; period < 3; period++) {
            for (int what = 0; what < 8; what++) {
                Check.due("page " + period + ", " + what, x.page(period, what), want[period][what]);
            }
        }
    }

    @Says(at = "19", text = "NO_SUCH: there are none such.")
    static void p19NoSuchPageOrWhat() {
        ValueDays x = Check.told(HEAD);
        for (int period : Check.outside(0, 1)) {
            for (int what = 0; what < 8; what++) {
                Check.due("page " + period, x.page(period, what), Check.NO_SUCH);
            }
        }
        for (int what : Check.outside(0, 7)) {
            Check.due("what " + what, x.page(0, what), Check.NO_SUCH);
        }
        Check.due("no book", new ValueDays().page(0, 0), Check.NO_SUCH);
    }

    @Says(at = "20", text = "The i-th ENTRY (from 0) of a PAGE.")
    static void p20LinesOfAPage() {
        ValueDays x = Check.told(TEXT);
        int[][] lines = {{0, 1, 2}, {3, 4}};
        for (int period = 0; period < 2; period++) {
            for (int i = 0; i < lines[period].length; i++) {
                Check.due("line " + period + ", " + i, x.line(period, i), lines[period][i]);
            }
        }
    }

    @Says(at = "20", text = "NONE: it has not so many; -2: there is none such, i is below 0.")
    static void p20NotSoManyOrNone() {
        ValueDays x = Check.told(TEXT);
        Check.due("behind the last", x.line(0, 3), -1);
        Check.due("behind the last", x.line(1, 2), -1);
        Check.due("far", x.line(1, Integer.MAX_VALUE), -1);
        Check.due("an empty page", x.line(2, 0), -1);
        Check.due("below 0", x.line(0, -1), -2);
        Check.due("far below 0", x.line(0, Integer.MIN_VALUE), -2);
        for (int period : Check.outside(0, 2)) {
            Check.due("page " + period, x.line(period, 0), -2);
        }
        Check.due("no book", new ValueDays().line(0, 0), -2);
    }
}
