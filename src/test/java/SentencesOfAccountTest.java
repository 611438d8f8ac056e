/** Each sentence of Terms II to IV and of What it is, with the edges it names. Rate 3600: 1 of 1000 a day. */
public final class SentencesOfAccountTest {
    private static final String HEAD = "book days 10 periods 2 compound 1;";
    private static final String LATE = "book days 10 periods 3 compound 1;tier 3600;pay 0 50000;close;close;pay 0 50000;";

    public static void main(String[] args) throws Exception {
        Sentences.run(SentencesOfAccountTest.class, "What it is", "Terms II", "Terms III", "Terms IV");
    }

    private static void row(String name, ValueDays x, int day, long... parts) {
        for (int i = 0; i < parts.length; i++) {
            Check.due(name + ", part " + i, x.part(day, i), parts[i]);
        }
        Check.due(name + ", no more parts", x.part(day, parts.length), Check.NO_SUCH);
    }

    // ---- What it is

    @Says(at = "What it is", text = "One account whose interest is reckoned by value days: entries come in any order, for days long gone, too;"
        + " parts of what stands there by tiers, what is owed within a limit and above it, each by its rate of that day;"
        + " periods are closed one by one, their interest is booked, and counts from a compounding day on;"
        + " closed ones are run anew by all that is known then, and what is unlike is put right in the open one,"
        + " by the day it should have had; pages that are closed stay; what an entry brought, another day for it, another rate,"
        + " what could be drawn, what must be paid; entries turned back, more by hand, taken back, images.")
    static void oneAccountFromItsFirstDayOn() {
        ValueDays x = Check.told(HEAD + "tier 3600 to 1000;tier 1800;debit 3600 over 5000 limit 500;pay 5 3000;pay 0 1000;close;");
        // Days 0 .. 4: 1 each, days 5 .. 9: 1 and 1.5 each.
        Check.due("booked", x.booked(0), 18);
        Check.due("counts from its day on", x.balance(10) - x.balance(9), 18);
        long page = x.page(0, 6);
        x.draw(0, 1000);
        x.rerun();
        // Days 0 .. 4: 0, days 5 .. 9: 1 and 1 each.
        Check.due("put right", x.entry(4, 1), 10 - 18);
        Check.due("by its day", x.entry(4, 2), 10);
        Check.due("in the open one", x.entry(4, 3), 1);
        Check.due("the page stays", x.page(0, 6), page);
        Check.due("turned back", x.reverse(3), 5);
        Check.due("taken back", x.undo(), 2);
        Check.due("an image", x.image(2), 0);
        Check.due("all taken back", x.anew(), 2);
        Check.due("the image", x.back(2) + x.count(7), 2);
    }

    @Says(at = "What it is", text = "An object is used for at most 512 calls after it has been made; what later calls answer is free.")
    static void fiveHundredAndTwelveCallsAreAnswered() {
        ValueDays x = new ValueDays();
        int calls = 0;
        for (int i = 1; i <= 45; i++) {
            Check.due("feed " + i, x.feed(0x20202020, 0x20202020, 0x20202020, 0x20202020, 0x20202020), 20 * i);
            calls++;
        }
        Check.due("end", x.end(0), 0);
        Check.due("feed", x.feed(0x626f6f6b, 0x20646179, 0x73203130, 0x20706572, 0x696f6473), 20);
        Check.due("feed", x.feed(0x20322063, 0x6f6d706f, 0x756e6420, 0x313b2020, 0x20202020), 40);
        Check.due("book", x.book(), 1);
        calls += 4;
        for (; calls < 510; calls++) {
            Check.due("call " + calls, calls % 2 == 1 ? x.pay(0, 7) : x.undo(), 0);
        }
        Check.due("acts", x.count(7), 1);
        Check.due("the 512th", x.balance(0), 7);
    }

    // ---- II: entries, balances, parts, interest

    @Says(at = "Terms II", text = "ENTRIES, by number as they come: a SORT (0 paid, drawn; 1 interest; 2 correction; 3 turned back),"
        + " an amount (drawn: below 0), a VALUE day, the PERIOD in which it is booked (the open one),"
        + " the PERIOD, ENTRY it is of (NONE: none).")
    static void entriesByNumberAsTheyCome() {
        ValueDays x = Check.told("book days 10 periods 3 compound 1;tier 3600;pay 9 1000;draw 5 300;close;pay 0 2000;rerun;");
        Check.due("turned back", x.reverse(1), 5);
        // Closed: 300 owed without a rate on days 5 .. 8, 700 on day 9: 0.7; then 2000, 1700, 2700: 10, 6.8, 2.7.
        long[][] want = {{0, 1000, 9, 0, -1, -1}, {0, -300, 5, 0, -1, -1}, {1, 1, 10, 0, 0, -1}, {0, 2000, 0, 1, -1, -1},
            {2, 19, 10, 1, 0, -1}, {3, 300, 5, 1, -1, 1}};
        for (int entry = 0; entry < want.length; entry++) {
            for (int what = 0; what < 6; what++) {
                Check.due("entry " + entry + ", " + what, x.entry(entry, what), want[entry][what]);
            }
        }
        Check.due("entries", x.count(5), 6);
        x.reverse(0);
        Check.due("a paid one turned back is below 0", x.entry(6, 1), -1000);
    }

    @Says(at = "Terms II", text = "BALANCE of a DAY: all amounts of ENTRIES of that VALUE day or an earlier one, together, as known now.")
    static void balanceHasThatDayAndEarlierOnes() {
        ValueDays x = Check.told("book days 10 periods 2 compound 2;tier 5000;pay 5 7;draw 5 2;pay 19 99999;pay 0 1;close;");
        Check.due("day 0", x.balance(0), 1);
        Check.due("day 4", x.balance(4), 1);
        Check.due("day 5", x.balance(5), 6);
        Check.due("day 18", x.balance(18), 6);
        Check.due("day 19", x.balance(19), 100005);
        x.pay(0, 10);
        Check.due("known now", x.balance(18), 16);
        x.undo();
        Check.due("no more known", x.balance(18), 6);
        Check.due("none", Check.told(HEAD).balance(19), 0);
    }

    @Says(at = "Terms II", text = "PARTS of a BALANCE above 0: that of a TIER: what lies above B of the TIER ahead (0), and not above its own"
        + " (without: all).")
    static void partsOfABalanceAbove0() {
        ValueDays x = Check.told("book days 5 periods 2 compound 1;tier 10 to 100;tier 20 to 300;tier 30;"
            + "pay 1 1;pay 2 98;pay 3 1;pay 4 1;pay 5 198;pay 6 1;pay 7 1;pay 8 99999;");
        row("0", x, 0, 0, 0, 0, 0, 0, 0);
        row("1", x, 1, 1, 0, 0, 0, 0, 0);
        row("99", x, 2, 99, 0, 0, 0, 0, 0);
        row("100", x, 3, 100, 0, 0, 0, 0, 0);
        row("101", x, 4, 100, 1, 0, 0, 0, 0);
        row("299", x, 5, 100, 199, 0, 0, 0, 0);
        row("300", x, 6, 100, 200, 0, 0, 0, 0);
        row("301", x, 7, 100, 200, 1, 0, 0, 0);
        row("100300", x, 8, 100, 200, 100000, 0, 0, 0);
        x.draw(0, 5);
        row("-5", x, 0, 0, 0, 0, 0, 0, 5);
        x = Check.told(HEAD + "tier 10;pay 0 99999;pay 0 99999;");
        row("one tier without B", x, 0, 199998, 0, 0, 0);
    }

    @Says(at = "Terms II", text = "What is above B of the last TIER, if that has one, is in none.")
    static void aboveTheLastTopIsInNone() {
        ValueDays x = Check.told(HEAD + "tier 10 to 100;tier 20 to 300;pay 0 300;pay 1 1;pay 2 99999;");
        row("300", x, 0, 100, 200, 0, 0, 0);
        row("301", x, 1, 100, 200, 1, 0, 0);
        row("100300", x, 2, 100, 200, 100000, 0, 0);
        Check.due("product", x.product(0), 5000);
        Check.due("it brings nothing", x.product(1), 5000);
        Check.due("it brings nothing", x.product(2), 5000);
        x = Check.told(HEAD + "pay 0 70;");
        row("without tiers", x, 0, 70, 0, 0);
        Check.due("product", x.product(0), 0);
    }

    @Says(at = "Terms II", text = "Of one below 0, without sign: what is not above LIMIT, and what is.")
    static void partsOfABalanceBelow0() {
        ValueDays x = Check.told("book days 5 periods 2 compound 1;tier 9;debit 1 over 2 limit 300;draw 1 1;draw 2 298;draw 3 1;draw 4 1;"
            + "draw 5 99999;from 6 limit 0;from 7 limit 99999;from 8 limit 301;");
        row("0", x, 0, 0, 0, 0, 0);
        row("-1", x, 1, 0, 0, 1, 0);
        row("-299", x, 2, 0, 0, 299, 0);
        row("-300", x, 3, 0, 0, 300, 0);
        row("-301", x, 4, 0, 0, 300, 1);
        row("-100300", x, 5, 0, 0, 300, 100000);
        row("limit 0", x, 6, 0, 0, 0, 100300);
        row("limit 99999", x, 7, 0, 0, 99999, 301);
        row("limit 301", x, 8, 0, 0, 301, 99999);
        x.pay(0, 5);
        row("5", x, 0, 5, 0, 0, 0);
    }

    @Says(at = "Terms II", text = "PRODUCT of a DAY: PARTS of TIERS times their RATES, less PARTS owed times theirs, all of that DAY.")
    static void productByTheRatesOfThatDay() {
        ValueDays x = Check.told("book days 5 periods 2 compound 1;tier 10 to 100;tier 20;debit 3 over 7 limit 50;pay 0 150;draw 4 300;"
            + "from 1 tier 0 11;from 2 tier 1 0;from 5 debit 4;from 6 over 8;from 7 limit 150;");
        long[] want = {100 * 10 + 50 * 20, 100 * 11 + 50 * 20, 100 * 11, 100 * 11, -(50 * 3 + 100 * 7), -(50 * 4 + 100 * 7),
            -(50 * 4 + 100 * 8), -150 * 4, -150 * 4, -150 * 4};
        for (int day = 0; day < 10; day++) {
            Check.due("day " + day, x.product(day), want[day]);
        }
        x = Check.told(HEAD + "tier 5000;debit 5000 over 5000 limit 0;" + "pay 0 99999;".repeat(20) + "draw 19 99999;".repeat(10));
        Check.due("the most", x.product(0), 20L * 99999 * 5000);
        for (int i = 0; i < 20; i++) {
            x.draw(0, 99999);
        }
        Check.due("the least", x.product(19), -10L * 99999 * 5000);
    }

    @Says(at = "Terms II", text = "INTEREST of a PERIOD: PRODUCTS of its DAYS together by 3600000, to the nearest whole number,"
        + " a half away from 0.")
    static void interestToTheNearestWhole() {
        String head = "book days 2 periods 2 compound 1;";
        Check.due("1799999", Check.told(head + "tier 1799 to 1000;tier 999;pay 1 1001;").products(0, 0), 1799999);
        Check.due("less than a half", Check.told(head + "tier 1799 to 1000;tier 999;pay 1 1001;").fresh(0), 0);
        Check.due("a half", Check.told(head + "tier 1800;pay 1 1000;").fresh(0), 1);
        Check.due("one", Check.told(head + "tier 3600;pay 1 1000;").fresh(0), 1);
        Check.due("5399899", Check.told(head + "tier 1799 to 3001;tier 1100;pay 1 3002;").products(0, 0), 5399899);
        Check.due("less than one and a half", Check.told(head + "tier 1799 to 3001;tier 1100;pay 1 3002;").fresh(0), 1);
        Check.due("one and a half", Check.told(head + "tier 1800;pay 1 3000;").fresh(0), 2);
        Check.due("less than a half below 0", Check.told(head + "debit 1799 over 999 limit 1000;draw 1 1001;").fresh(0), 0);
        Check.due("a half below 0", Check.told(head + "debit 1800 over 0 limit 1000;draw 1 1000;").fresh(0), -1);
        Check.due("one and a half below 0", Check.told(head + "debit 1800 over 0 limit 3000;draw 1 3000;").fresh(0), -2);
        // Days together, not each by itself: 0.25 and 0.25; 0.5 less 0.5.
        Check.due("two quarters", Check.told(head + "tier 900;pay 0 1000;").fresh(0), 1);
        Check.due("evened out", Check.told(head + "tier 1800;debit 1800 over 0 limit 9999;pay 0 1000;draw 1 2000;").fresh(0), 0);
        // 4999940 on 40 days at 5000: 277774.44.
        ValueDays x = Check.told("book days 40 periods 1 compound 1;tier 5000;" + "pay 0 99999;".repeat(30));
        for (int i = 0; i < 20; i++) {
            x.pay(0, i == 0 ? 99989 : 99999);
        }
        Check.due("the most", x.fresh(0), 277774);
    }

    @Says(at = "Terms II", text = "Its COMPOUNDING day: P times K times (p by K, cut, and 1): behind the last DAY, perhaps:"
        + " then it counts for no DAY.")
    static void compoundingDayPerhapsBehindTheLast() {
        int[][] want = {{10, 20, 30, 40, 50, 60, 70, 80}, {20, 20, 40, 40, 60, 60, 80, 80}, {30, 30, 30, 60, 60, 60, 90, 90},
            {40, 40, 40, 40, 80, 80, 80, 80}};
        for (int k = 1; k <= 4; k++) {
            ValueDays x = Check.told("book days 10 periods 8 compound " + k + ";");
            for (int period = 0; period < 8; period++) {
                Check.due("K " + k + ", period " + period, x.compounds(period), want[k - 1][period]);
            }
        }
        // Of the last period it is behind the last day at least by one; by K 2 of the first one, too.
        ValueDays x = Check.told("book days 10 periods 2 compound 2;tier 3600;pay 0 1000;close;");
        Check.due("its value", x.entry(1, 2), 20);
        Check.due("for no day", x.balance(19), 1000);
        Check.due("in all amounts", x.page(1, 0), 1010);
        x = Check.told("book days 10 periods 2 compound 1;tier 3600;pay 0 1000;close;");
        Check.due("from its day on", x.balance(10), 1010);
        Check.due("not ahead", x.balance(9), 1000);
    }

    @Says(at = "Terms II", text = "CLOSED: the open PERIOD (the first that is not closed), while there is one: an ENTRY of SORT 1 of its INTEREST"
        + " as it is now (0, too), VALUE its COMPOUNDING day, is booked in it; the next one is open then.")
    static void closedOneByOne() {
        ValueDays x = Check.told("book days 10 periods 2 compound 1;tier 3600;pay 10 1000;close;close;");
        long[][] want = {{1, 0, 10, 0, 0, -1}, {1, 10, 20, 1, 1, -1}};
        for (int what = 0; what < 6; what++) {
            Check.due("of 0, too: " + what, x.entry(1, what), want[0][what]);
            Check.due("the next one: " + what, x.entry(2, what), want[1][what]);
        }
        Check.due("none is open", x.close(), -5);
        Check.due("closed", x.count(6), 2);
        Check.due("entries", x.count(5), 3);
        x = Check.told("book days 10 periods 2 compound 1;");
        Check.due("the first", x.close(), 0);
        Check.due("booked in the next", x.entry(x.pay(0, 1), 3), 1);
        Check.due("the next", x.close(), 1);
        Check.due("no more", x.close(), -5);
        // 1798200 by 3600000; then 1800000.
        Check.due("less than a half", Check.told("book days 2 periods 2 compound 1;tier 1800;pay 1 999;close;").booked(0), 0);
        Check.due("a half", Check.told("book days 2 periods 2 compound 1;tier 1800;pay 1 1000;close;").booked(0), 1);
    }

    @Says(at = "Terms II", text = "RERUN: PERIOD by PERIOD of those closed, the first first: INTEREST as it is now"
        + " (with corrections that came ahead), less all ENTRIES of SORT 1, 2 of it: if that is not 0, an ENTRY of SORT 2 of so much,"
        + " VALUE its COMPOUNDING day, is booked in the open PERIOD.")
    static void rerunTheFirstFirst() {
        ValueDays x = Check.told(LATE + "rerun;");
        // Period 0: 1000 less 500. Period 1: 100500 and the 500 just come: 1010 less 505.
        long[][] want = {{2, 500, 10, 2, 0, -1}, {2, 505, 20, 2, 1, -1}};
        for (int what = 0; what < 6; what++) {
            Check.due("of period 0: " + what, x.entry(4, what), want[0][what]);
            Check.due("of period 1: " + what, x.entry(5, what), want[1][what]);
        }
        Check.due("entries", x.count(5), 6);
        Check.due("nothing unlike, none is booked", x.rerun(), 0);
        Check.due("entries", x.count(5), 6);
        // A later one is less by corrections, too, and may be below 0.
        x.reverse(3);
        Check.due("again", x.rerun(), 2);
        Check.due("down", x.entry(7, 1), -500);
        Check.due("down", x.entry(8, 1), -505);
        Check.due("one alone", Check.told("book days 10 periods 3 compound 1;tier 3600;close;close;pay 10 1000;").rerun(), 1);
        Check.due("none closed", Check.told(HEAD + "tier 3600;pay 0 1000;").rerun(), 0);
        x = Check.told("book days 10 periods 2 compound 1;tier 3600;close;pay 0 1000;");
        Check.due("the open one is not run", x.rerun(), 1);
        Check.due("nothing of it", x.booked(1), 0);
        Check.due("less than a half", Check.told("book days 2 periods 2 compound 1;tier 1800;close;pay 1 999;").rerun(), 0);
        Check.due("a half", Check.told("book days 2 periods 2 compound 1;tier 1800;close;pay 1 1000;").rerun(), 1);
    }

    @Says(at = "Terms II", text = "PAGE of a PERIOD: ENTRIES booked in it.")
    static void pageHasWhatIsBookedInIt() {
        ValueDays x = Check.told("book days 10 periods 3 compound 1;tier 3600;pay 29 1;close;pay 0 2000;draw 0 1000;rerun;");
        int[] sizes = {2, 3, 0};
        for (int period = 0; period < 3; period++) {
            Check.due("entries of page " + period, x.page(period, 7), sizes[period]);
        }
        Check.due("by where it is booked, not by value", x.line(0, 0), 0);
        Check.due("by where it is booked, not by value", x.line(1, 0), 2);
        Check.due("closed ones stay", x.page(0, 6), 1);
        Check.due("the correction of period 0", x.line(1, 2), 4);
    }

    @Says(at = "Terms II", text = "It opens with all amounts booked in PERIODS ahead.")
    static void pageOpensWithWhatIsAhead() {
        ValueDays x = Check.told("book days 10 periods 3 compound 3;tier 3600;pay 29 7;pay 0 1000;close;draw 5 300;close;pay 1 5;");
        // 10; then 700 on ten days: 7.
        long[] opens = {0, 1017, 724};
        for (int period = 0; period < 3; period++) {
            Check.due("page " + period, x.page(period, 0), opens[period]);
        }
        Check.due("the first opens with nothing", Check.told(HEAD + "pay 0 5;").page(0, 0), 0);
        Check.due("whatever comes later", x.page(2, 6), 729);
    }

    // ---- III: all, settled

    @Says(at = "Terms III", text = "ALL: INTEREST of all PERIODS (open ones, too), as known now, together.")
    static void allPeriodsOpenOnesToo() {
        Check.due("all open", Check.told(HEAD + "tier 3600;pay 0 1000;").all(), 20);
        ValueDays x = Check.told(HEAD + "tier 3600;pay 0 1000;close;close;");
        Check.due("all closed", x.all(), 20);
        x.change(0, 0, 1800);
        Check.due("as known now, not as booked", x.all(), 10);
        // Each is rounded by itself: 0.4 and 0.4.
        Check.due("two times 0.4", Check.told(HEAD + "tier 3600;pay 0 40;").all(), 0);
        Check.due("two times 0.5", Check.told(HEAD + "tier 3600;pay 0 50;").all(), 2);
        Check.due("nothing", Check.told(HEAD).all(), 0);
        Check.due("below 0", Check.told(HEAD + "debit 3600 over 3600 limit 0;draw 0 1000;").all(), -20);
    }

    @Says(at = "Terms III", text = "SETTLED: amounts of all ENTRIES together, whatever their VALUE, as if from now on"
        + " each open PERIOD but the last one were CLOSED, then RERUN done, then the last one CLOSED (if none is open: as they are).")
    static void settledAsIfAllWereClosed() {
        // 500, 505, then the last one of 51005: 510.
        ValueDays x = Check.told("book days 10 periods 3 compound 1;tier 3600;pay 0 50000;");
        Check.due("three open", x.settled(), 50000 + 500 + 505 + 510);
        // With 50000 more: 1000, 1010, then of 102010: 1020.
        x = Check.told(LATE);
        Check.due("the last one is open", x.settled(), 100000 + 1000 + 1010 + 1020);
        x.rerun();
        Check.due("run anew already", x.settled(), 100000 + 1000 + 1010 + 1020);
        x.undo();
        x.close();
        // The last one was closed by 101005 on ten days: 1010, and nothing is put right.
        Check.due("none is open", x.settled(), 100000 + 500 + 505 + 1010);
        x = Check.told("book days 10 periods 1 compound 4;tier 3600;pay 0 50000;");
        Check.due("a single one, value behind all days", x.settled(), 50500);
        Check.due("less than a half", Check.told("book days 2 periods 2 compound 1;tier 1800;pay 1 999;draw 2 999;").settled(), 0);
        Check.due("a half", Check.told("book days 2 periods 2 compound 1;tier 1800;pay 1 1000;draw 2 1000;").settled(), 1);
    }

    // ---- IV: paid off

    @Says(at = "Terms IV", text = "PAID OFF: ENTRIES of amounts above 0, below 0, each by VALUE days, of like ones by number:"
        + " the first below 0 by the first above 0, as far as the lesser of what is left of both goes, and so on,"
        + " till there are no more of either.")
    static void paidOffTheFirstByTheFirst() {
        ValueDays x = Check.told(HEAD + "draw 5 30;draw 2 20;pay 9 5;pay 3 10;pay 9 6;draw 2 1;");
        // 20 of day 2 by 10, 5, 5 of 6; then 1 of day 2 by 1 of 6; 30 of day 5 by none.
        long[] left = {30, 0, 0, 0, 0, 0};
        int[] gone = {-1, 9, 9, 3, 9, 9};
        for (int entry = 0; entry < 6; entry++) {
            Check.due("left " + entry, x.left(entry), left[entry]);
            Check.due("gone " + entry, x.gone(entry), gone[entry]);
        }
        x = Check.told(HEAD + "pay 0 5;pay 1 5;");
        Check.due("none below 0", x.left(0) + x.left(1), 10);
        x = Check.told(HEAD + "draw 0 5;draw 1 5;");
        Check.due("none above 0", x.left(0) + x.left(1), 10);
        x = Check.told(HEAD + "draw 0 5;pay 0 5;");
        Check.due("both go at once", x.left(0) + x.left(1), 0);
        x = Check.told(HEAD + "draw 0 5;pay 0 5;draw 0 1;");
        Check.due("no more above 0", x.left(2), 1);
    }

    @Says(at = "Terms IV", text = "(Whichever VALUE day is earlier; ENTRIES of 0 aside.)")
    static void paidOffWhicheverIsEarlier() {
        ValueDays x = Check.told(HEAD + "draw 7 5;pay 3 5;");
        Check.due("paid ahead", x.left(0) + x.left(1), 0);
        x = Check.told(HEAD + "draw 3 5;pay 7 5;");
        Check.due("paid behind", x.left(0) + x.left(1), 0);
        // Interest of 0, of the earliest value day of all that are owed or paid.
        x = Check.told("book days 10 periods 2 compound 1;close;draw 15 5;pay 16 4;");
        Check.due("of 0", x.left(0), 0);
        Check.due("of 0", x.gone(0), -1);
        Check.due("not by it", x.left(1), 1);
        Check.due("not it", x.gone(2), 16);
        Check.due("not it", x.oldest(), 1);
    }

    @Says(at = "Terms IV", text = "The constants: `NO_SUCH = Long.MIN_VALUE`: What is told for none such where amounts may be below 0.")
    static void noSuchIsTheLeastOfAll() {
        Check.due("NO_SUCH", ValueDays.NO_SUCH, Long.MIN_VALUE);
        Check.due("NONE", ValueDays.NONE, -1);
        ValueDays x = Check.told(HEAD + "draw 0 1;draw 1 1;");
        Check.due("-1 is an amount", x.balance(0), -1);
        Check.due("-2 is an amount", x.balance(1), -2);
        Check.due("none such", x.balance(20), ValueDays.NO_SUCH);
    }
}
