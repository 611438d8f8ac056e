/** Each sentence of promises 21 to 40, with the edges it names. Rate 3600: 1 of 1000 a day. */
public final class Sentences21To40Test {
    private static final String HEAD = "book days 10 periods 2 compound 1;";
    private static final String PAID = HEAD + "tier 3600;pay 0 1000;pay 5 2000;";
    private static final String OWED = "book days 4 periods 2 compound 1;debit 1000 over 2000 limit 300;draw 0 500;pay 2 300;";
    private static final String MILLION = HEAD + "from 0 limit 9;" + "pay 3 99999;".repeat(10);

    public static void main(String[] args) throws Exception {
        Sentences.run(Sentences21To40Test.class, Sentences.promises(21, 40));
    }

    // ---- 21 to 26: the balance over days

    @Says(at = "21", text = "How many steps the BALANCE has: DAYS (0 aside) on which it is another one than the DAY ahead.")
    static void p21StepsDay0Aside() {
        Check.due("no entries", Check.told(HEAD).steps(), 0);
        Check.due("day 0 aside", Check.told(HEAD + "pay 0 5;").steps(), 0);
        Check.due("day 1, the last day", Check.told(HEAD + "pay 1 5;draw 19 5;").steps(), 2);
        Check.due("two on one day", Check.told(HEAD + "pay 5 5;pay 5 6;").steps(), 1);
        Check.due("evened out", Check.told(HEAD + "pay 5 5;draw 5 5;").steps(), 0);
        Check.due("by interest", Check.told(PAID + "close;").steps(), 2);
        Check.due("behind the last day", Check.told(HEAD.replace("compound 1", "compound 2") + "tier 3600;pay 0 1000;close;").steps(), 0);
        StringBuilder all = new StringBuilder(HEAD);
        for (int day = 0; day < 20; day++) {
            all.append("pay ").append(day).append(" 1;");
        }
        Check.due("all days", Check.told(all.toString()).steps(), 19);
    }

    @Says(at = "21", text = "-2: there is no BOOK.")
    static void p21NoBook() {
        Check.due("no book", new ValueDays().steps(), -2);
    }

    @Says(at = "22", text = "The i-th (from 0) of these DAYS.")
    static void p22StepsByNumber() {
        ValueDays x = Check.told(HEAD + "pay 19 1;pay 0 1;draw 1 1;pay 5 5;draw 5 5;pay 10 9;");
        Check.due("the first", x.step(0), 1);
        Check.due("the second", x.step(1), 10);
        Check.due("the last", x.step(2), 19);
    }

    @Says(at = "22", text = "NONE: there are not so many; -2: i is below 0, there is no BOOK.")
    static void p22NotSoManyOrNone() {
        ValueDays x = Check.told(HEAD + "pay 0 1;draw 1 1;");
        Check.due("the only one", x.step(0), 1);
        Check.due("behind it", x.step(1), -1);
        Check.due("far", x.step(Integer.MAX_VALUE), -1);
        Check.due("none", Check.told(HEAD).step(0), -1);
        Check.due("none behind the last day", Check.told(HEAD + "pay 1 5;").step(1), -1);
        Check.due("below 0", x.step(-1), -2);
        Check.due("far below 0", x.step(Integer.MIN_VALUE), -2);
        Check.due("no book", new ValueDays().step(0), -2);
    }

    @Says(at = "23", text = "The least BALANCE of any DAY.")
    static void p23TheLeastBalance() {
        Check.due("nothing", Check.told(HEAD).lowest(), 0);
        Check.due("on day 0", Check.told(HEAD + "pay 0 3;pay 1 3;").lowest(), 3);
        Check.due("on the last day", Check.told(HEAD + "pay 0 3;draw 19 1;").lowest(), 2);
        Check.due("on day 1 alone", Check.told(HEAD + "pay 0 3;draw 1 8;pay 2 9;").lowest(), -5);
        Check.due("in between", Check.told(HEAD + "pay 0 3;draw 9 8;pay 10 9;").lowest(), -5);
        ValueDays x = Check.told(HEAD + "draw 0 99999;".repeat(30));
        for (int i = 0; i < 20; i++) {
            x.draw(19, 99999);
        }
        Check.due("the least of all", x.lowest(), -50L * 99999);
    }

    @Says(at = "23", text = "NO_SUCH: there is no BOOK.")
    static void p23NoBook() {
        Check.due("no book", new ValueDays().lowest(), Check.NO_SUCH);
    }

    @Says(at = "24", text = "DAYS on which more is owed than LIMIT.")
    static void p24DaysBeyond() {
        Check.due("nothing owed", Check.told(HEAD).beyond(), 0);
        Check.due("paid", Check.told(HEAD + "pay 0 5;").beyond(), 0);
        Check.due("as much as LIMIT", Check.told(HEAD + "from 0 limit 5;draw 0 5;").beyond(), 0);
        Check.due("1 more", Check.told(HEAD + "from 0 limit 5;draw 0 6;").beyond(), 20);
        Check.due("limit 0", Check.told(HEAD + "draw 0 1;").beyond(), 20);
        Check.due("the last day", Check.told(HEAD + "draw 19 1;").beyond(), 1);
        Check.due("the first day", Check.told(HEAD + "draw 0 1;pay 1 1;").beyond(), 1);
        Check.due("by LIMIT of that day", Check.told(HEAD + "draw 0 6;from 3 limit 6;from 8 limit 5;").beyond(), 15);
    }

    @Says(at = "24", text = "-2: there is no BOOK.")
    static void p24NoBook() {
        Check.due("no book", new ValueDays().beyond(), -2);
    }

    @Says(at = "25", text = "The first of them.")
    static void p25TheFirstBeyond() {
        Check.due("day 0", Check.told(HEAD + "draw 0 1;").firstBeyond(), 0);
        Check.due("the last day", Check.told(HEAD + "draw 19 1;").firstBeyond(), 19);
        Check.due("by a lower limit", Check.told(HEAD + "from 0 limit 6;draw 0 6;from 8 limit 5;").firstBeyond(), 8);
    }

    @Says(at = "25", text = "NONE: there are none; -2 likewise.")
    static void p25NoneBeyond() {
        Check.due("nothing owed", Check.told(HEAD).firstBeyond(), -1);
        Check.due("as much as LIMIT", Check.told(HEAD + "from 0 limit 5;draw 0 5;").firstBeyond(), -1);
        Check.due("no book", new ValueDays().firstBeyond(), -2);
    }

    @Says(at = "26", text = "BALANCES of all DAYS of a PERIOD together, by P, a fraction in lowest terms, what 0: above (below 0, perhaps), 1: below.")
    static void p26MeanInLowestTerms() {
        String head = "book days 6 periods 2 compound 1;";
        long[][] want = {{0, 0, 1}, {1, 1, 6}, {2, 1, 3}, {3, 1, 2}, {4, 2, 3}, {5, 5, 6}, {6, 1, 1}, {7, 7, 6}, {12, 2, 1}};
        for (long[] w : want) {
            String day = w[0] == 0 ? "" : "pay 5 " + w[0] + ";draw 6 " + w[0] + ";";
            ValueDays x = Check.told(head + day);
            Check.due(w[0] + " by 6, above", x.mean(0, 0), w[1]);
            Check.due(w[0] + " by 6, below", x.mean(0, 1), w[2]);
            Check.due("nothing in the next", x.mean(1, 0), 0);
            Check.due("nothing in the next", x.mean(1, 1), 1);
            if (w[0] != 0) {
                x = Check.told(head + day.replace("pay", "x").replace("draw", "pay").replace("x", "draw"));
                Check.due(-w[0] + " by 6, above", x.mean(0, 0), -w[1]);
                Check.due(-w[0] + " by 6, below", x.mean(0, 1), w[2]);
            }
        }
        Check.due("all days", Check.told("book days 40 periods 1 compound 1;pay 0 7;pay 39 1;").mean(0, 0), 281);
        Check.due("all days", Check.told("book days 40 periods 1 compound 1;pay 0 7;pay 39 1;").mean(0, 1), 40);
        Check.due("not the first day of the next", Check.told(head + "pay 6 5;").mean(0, 0), 0);
    }

    @Says(at = "26", text = "NO_SUCH: there are none such.")
    static void p26NoSuchPeriodOrWhat() {
        ValueDays x = Check.told(HEAD);
        for (int bad : Check.outside(0, 1)) {
            Check.due("period " + bad, x.mean(bad, 0), Check.NO_SUCH);
            Check.due("period " + bad, x.mean(bad, 1), Check.NO_SUCH);
            Check.due("what " + bad, x.mean(0, bad), Check.NO_SUCH);
        }
        Check.due("no book", new ValueDays().mean(0, 0), Check.NO_SUCH);
    }

    // ---- 27 to 30: all, and what an entry brought

    @Says(at = "27", text = "ALL (III).")
    static void p27All() {
        Check.due("20 and 30", Check.told(PAID).all(), 50);
        Check.due("nothing", Check.told(HEAD).all(), 0);
        Check.due("below 0", Check.told("book days 10 periods 1 compound 1;from 0 over 3600;draw 0 1000;").all(), -10);
    }

    @Says(at = "27", text = "NO_SUCH: there is no BOOK.")
    static void p27NoBook() {
        Check.due("no book", new ValueDays().all(), Check.NO_SUCH);
    }

    @Says(at = "28", text = "How much more ALL is than it would be without an ENTRY (other ones staying).")
    static void p28WhatAnEntryBrought() {
        ValueDays x = Check.told(HEAD + "tier 3600;pay 0 50000;close;");
        Check.due("its interest stays", x.brought(0), 1000);
        Check.due("the interest itself", x.brought(1), 5);
        x.draw(19, 1000);
        Check.due("drawn", x.brought(2), -1);
        Check.due("of 0", Check.told(HEAD + "tier 3600;close;pay 10 1000;").brought(0), 0);
        Check.due("behind the last day", Check.told(HEAD.replace("compound 1", "compound 2") + "tier 3600;pay 0 1000;close;").brought(1), 0);
        Check.due("0.4 of 0.8", Check.told("book days 10 periods 1 compound 1;tier 3600;pay 0 40;pay 0 40;").brought(1), 1);
    }

    @Says(at = "28", text = "NO_SUCH: there is none such.")
    static void p28NoSuchEntry() {
        ValueDays x = Check.told(PAID);
        for (int entry : Check.outside(0, 1)) {
            Check.due("entry " + entry, x.brought(entry), Check.NO_SUCH);
        }
        Check.due("no entries", Check.told(HEAD).brought(0), Check.NO_SUCH);
        Check.due("no book", new ValueDays().brought(0), Check.NO_SUCH);
    }

    @Says(at = "29", text = "How much more ALL would be, were the VALUE day of an ENTRY another DAY.")
    static void p29AnotherDay() {
        ValueDays x = Check.told(PAID);
        int[][] want = {{0, 10}, {4, 2}, {5, 0}, {6, -2}, {19, -28}};
        for (int[] w : want) {
            Check.due("to day " + w[0], x.moved(1, w[0]), w[1]);
        }
        Check.due("the first one to the last day", x.moved(0, 19), -19);
        Check.due("all stays", x.all(), 50);
        x = Check.told(HEAD.replace("compound 1", "compound 2") + "tier 3600;pay 0 50000;close;");
        Check.due("from behind the last day to the last", x.moved(1, 19), 1);
        Check.due("to the first", x.moved(1, 0), 10);
    }

    @Says(at = "29", text = "NO_SUCH: there are none such.")
    static void p29NoSuchEntryOrDay() {
        ValueDays x = Check.told(PAID);
        for (int entry : Check.outside(0, 1)) {
            Check.due("entry " + entry, x.moved(entry, 0), Check.NO_SUCH);
        }
        for (int day : Check.outside(0, 19)) {
            Check.due("day " + day, x.moved(0, day), Check.NO_SUCH);
        }
        Check.due("no book", new ValueDays().moved(0, 0), Check.NO_SUCH);
    }

    @Says(at = "30", text = "The DAY, as VALUE day of an ENTRY, by which ALL would be most, the first of several.")
    static void p30TheFirstOfTheBestDays() {
        ValueDays x = Check.told(PAID);
        Check.due("paid: the first day", x.bestDay(1), 0);
        x.draw(0, 1000);
        Check.due("drawn: the last day", x.bestDay(2), 19);
        Check.due("all alike: the first of them", Check.told(HEAD + "pay 7 5;").bestDay(0), 0);
        Check.due("of 0: the first of them", Check.told(HEAD + "tier 3600;close;").bestDay(0), 0);
        // Nothing is lost from day 15 on: the first of five that are alike.
        x = Check.told(HEAD + "tier 0;from 12 tier 0 3600;from 15 tier 0 0;pay 0 9000;draw 13 5000;");
        Check.due("the first by which nothing is lost", x.bestDay(1), 15);
        // Without it 1 comes each day: each day behind it is one that is lost.
        x = Check.told(HEAD + "tier 3600;pay 0 1000;draw 5 1000;");
        Check.due("as if it had not come yet", x.bestDay(1), 19);
        // 1 is lost on day 19 in any case, none on days 15 .. 18.
        x = Check.told(HEAD + "tier 3600;from 15 tier 0 0;from 19 tier 0 3600;pay 0 9000;draw 3 1000;");
        Check.due("the first by which 1 is lost", x.bestDay(1), 15);
        Check.due("far more in the second period", Check.told(HEAD + "tier 3600;pay 10 50000;pay 15 1000;").bestDay(1), 0);
        // 0.4995 of one day is none, 0.999 of two is 1.
        x = Check.told("book days 2 periods 2 compound 1;tier 1800;pay 3 999;");
        Check.due("onto day 1: none and 1", x.moved(0, 1), 1);
        Check.due("onto day 0: 1 and 1", x.bestDay(0), 0);
        // Drawn on day 1: 1.499 are left of 1.999, on day 0: 0.999, both are 1.
        x = Check.told("book days 2 periods 1 compound 1;tier 1800;pay 0 1999;draw 0 1000;");
        Check.due("the first of two that are alike when rounded", x.bestDay(1), 0);
        // What is owed costs on days 0 .. 9 alone.
        x = Check.told(HEAD + "debit 3600 over 3600 limit 0;from 10 debit 0;from 10 over 0;draw 0 1000;");
        Check.due("the first day of the second period", x.bestDay(0), 10);
    }

    @Says(at = "30", text = "-2: there is none such.")
    static void p30NoSuchEntry() {
        ValueDays x = Check.told(PAID);
        for (int entry : Check.outside(0, 1)) {
            Check.due("entry " + entry, x.bestDay(entry), -2);
        }
        Check.due("no book", new ValueDays().bestDay(0), -2);
    }

    // ---- 31, 32: a late entry

    @Says(at = "31", text = "How much all wrong() together would be, did an ENTRY of SORT 0 of a VALUE day and amount (-99999 .. 99999) come now,"
        + " each closed PERIOD by itself.")
    static void p31ALateEntry() {
        ValueDays x = Check.told("book days 10 periods 3 compound 1;tier 3600;pay 0 50000;close;close;");
        Check.due("each by itself: 500 and 500", x.late(0, 50000), 1000);
        Check.due("99999: 999.99 each", x.late(0, 99999), 2000);
        Check.due("-99999: all is lost", x.late(0, -99999), -1005);
        Check.due("0", x.late(0, 0), 0);
        Check.due("on the last closed day", x.late(19, 50000), 50);
        Check.due("on the first open one", x.late(20, 50000), 0);
        Check.due("on the last day", x.late(29, -50000), 0);
        x.pay(0, 1000);
        Check.due("what is wrong already", x.late(29, 0), 20);
        Check.due("none closed", Check.told(PAID).late(0, 1000), 0);
        x = Check.told(PAID + "close;close;");
        Check.due("none is open", x.late(0, 1000), 20);
        Check.due("nothing came", x.count(5), 4);
    }

    @Says(at = "31", text = "NO_SUCH: there are none such.")
    static void p31NoSuchDayOrAmount() {
        ValueDays x = Check.told(PAID + "close;");
        for (int day : Check.outside(0, 19)) {
            Check.due("day " + day, x.late(day, 1), Check.NO_SUCH);
        }
        for (int amount : Check.outside(-99999, 99999)) {
            Check.due("amount " + amount, x.late(0, amount), Check.NO_SUCH);
        }
        Check.due("no book", new ValueDays().late(0, 0), Check.NO_SUCH);
    }

    @Says(at = "32", text = "The first closed PERIOD whose wrong() would be another one then.")
    static void p32TheFirstTouched() {
        ValueDays x = Check.told("book days 10 periods 3 compound 1;tier 3600;pay 0 1000;close;close;");
        Check.due("the first", x.touched(0, 1000), 0);
        Check.due("the first by half of 1", x.touched(0, 50), 0);
        // 0.49 more of 10 is nothing; 10.1 and 0.49 is 10.59.
        Check.due("the second alone", x.touched(0, 49), 1);
        Check.due("on the last day of the first", x.touched(9, 500), 0);
        Check.due("too little there, not in the second", x.touched(9, 499), 1);
        Check.due("on the first day of the second", x.touched(10, 1000), 1);
        Check.due("below 0", x.touched(0, -51), 0);
        x.pay(0, 1000);
        Check.due("another one: put right is, too", x.touched(0, -1000), 0);
    }

    @Says(at = "32", text = "NONE: none; -2: there are none such.")
    static void p32NoneTouchedOrNoneSuch() {
        ValueDays x = Check.told("book days 10 periods 3 compound 1;tier 3600;pay 0 1000;close;close;");
        Check.due("0", x.touched(0, 0), -1);
        Check.due("too little", x.touched(0, 1), -1);
        Check.due("in the open one", x.touched(20, 99999), -1);
        Check.due("none closed", Check.told(PAID).touched(0, 99999), -1);
        x.pay(0, 1000);
        Check.due("wrong already, and not another one", x.touched(0, 0), -1);
        for (int day : Check.outside(0, 29)) {
            Check.due("day " + day, x.touched(day, 1), -2);
        }
        for (int amount : Check.outside(-99999, 99999)) {
            Check.due("amount " + amount, x.touched(0, amount), -2);
        }
        Check.due("-99999", x.touched(0, -99999), 0);
        Check.due("99999", x.touched(0, 99999), 0);
        Check.due("no book", new ValueDays().touched(0, 0), -2);
    }

    // ---- 33, 34: other rates, another limit

    @Says(at = "33", text = "How much more ALL would be, were the RATE of a TIER R more (-5000 .. 5000) on all DAYS, 0 at least.")
    static void p33AnotherRate() {
        ValueDays x = Check.told(PAID);
        Check.due("3600 more", x.tilted(0, 3600), 50);
        Check.due("0 more", x.tilted(0, 0), 0);
        Check.due("3599 less: next to nothing", x.tilted(0, -3599), -50);
        Check.due("3600 less", x.tilted(0, -3600), -50);
        Check.due("5000 less: 0 at least", x.tilted(0, -5000), -50);
        Check.due("above 5000: 10000", Check.told("book days 10 periods 1 compound 1;tier 5000;pay 0 3600;").tilted(0, 5000), 50);
        // 0 at least on each day by itself: 1800 on five days is 0, 3600 on the others 900.
        x = Check.told("book days 10 periods 1 compound 1;tier 3600 to 1000;tier 1800;from 5 tier 1 3600;pay 0 3000;");
        Check.due("each day by itself", x.tilted(1, -2700), 10 + 3 - 25);
        Check.due("the other tier", x.tilted(0, -5000), -10);
        // 2999970 on ten days at 5: 41.7, by a rate of 1 still 8.3.
        x = Check.told("book days 10 periods 1 compound 1;tier 5;" + "pay 0 99999;".repeat(30));
        Check.due("0, not 1", x.tilted(0, -5), -42);
        Check.due("0 at least", x.tilted(0, -6), -42);
        Check.due("1799999 and 0 more", Check.told("book days 2 periods 1 compound 1;tier 1799 to 1000;tier 999;pay 1 1001;").tilted(0, 0), 0);
        x = Check.told("book days 10 periods 1 compound 1;tier 3600 to 1000;tier 1800;from 5 tier 1 3600;pay 0 3000;");
        Check.due("rates stay", x.rate(1, 0), 1800);
    }

    @Says(at = "33", text = "NO_SUCH: there are none such.")
    static void p33NoSuchTierOrRate() {
        ValueDays x = Check.told(PAID);
        for (int tier : Check.outside(0, 0)) {
            Check.due("tier " + tier, x.tilted(tier, 0), Check.NO_SUCH);
        }
        for (int more : Check.outside(-5000, 5000)) {
            Check.due("more " + more, x.tilted(0, more), Check.NO_SUCH);
        }
        Check.due("no tiers", Check.told(HEAD).tilted(0, 0), Check.NO_SUCH);
        Check.due("no book", new ValueDays().tilted(0, 0), Check.NO_SUCH);
    }

    @Says(at = "34", text = "How much more ALL would be, were LIMIT L on all DAYS.")
    static void p34AnotherLimit() {
        ValueDays x = Check.told("book days 10 periods 1 compound 1;debit 1800 over 3600 limit 1000;draw 0 2000;");
        Check.due("0", x.limited(0), -5);
        Check.due("as it is", x.limited(1000), 0);
        Check.due("all of it", x.limited(2000), 5);
        Check.due("99999", x.limited(99999), 5);
        x.change(5, 6, 0);
        // Now 7.5 and 10; by 2000 on all days 5 and 5.
        Check.due("on all days", x.limited(2000), 8);
        Check.due("the limit stays", x.owing(5, 2), 0);
        x = Check.told("book days 2 periods 1 compound 1;debit 1800 over 0 limit 1000;draw 1 1000;");
        Check.due("a half below 0, as it is", x.limited(1000), 0);
        Check.due("a little less", x.limited(999), 1);
        Check.due("nothing owed", Check.told(PAID).limited(0), 0);
    }

    @Says(at = "34", text = "NO_SUCH: there are none such.")
    static void p34NoSuchLimit() {
        ValueDays x = Check.told(PAID);
        for (int limit : Check.outside(0, 99999)) {
            Check.due("limit " + limit, x.limited(limit), Check.NO_SUCH);
        }
        Check.due("no book", new ValueDays().limited(0), Check.NO_SUCH);
    }

    // ---- 35 to 37: what could be drawn, must be paid

    @Says(at = "35", text = "The most (0 .. 999999) that could be drawn with VALUE of a DAY so that on no DAY from then on more is owed than LIMIT"
        + " (no interest reckoned anew).")
    static void p35TheMostThatCouldBeDrawn() {
        ValueDays x = Check.told(OWED);
        Check.due("days ahead do not count", x.most(2), 100);
        Check.due("the last day", x.most(7), 100);
        x.draw(7, 100);
        Check.due("0: a later day is at its limit", x.most(2), 0);
        Check.due("the next day is at its limit", Check.told(HEAD + "pay 0 9;draw 1 9;pay 2 9;").most(0), 0);
        Check.due("999999 and no more", Check.told(MILLION).most(3), 999999);
        Check.due("a day ahead of it", Check.told(MILLION).most(2), 9);
        Check.due("999998", Check.told(MILLION + "draw 3 1;").most(3), 999998);
        Check.due("999999", Check.told(MILLION).most(19), 999999);
        Check.due("far more is there", Check.told(MILLION + "pay 3 99999;").most(3), 999999);
        Check.due("nothing there, a limit", Check.told(HEAD + "from 0 limit 99999;").most(0), 99999);
        Check.due("a lower limit later", Check.told(HEAD + "from 0 limit 99999;from 19 limit 5;").most(0), 5);
        // Interest would be less, but is not reckoned anew.
        Check.due("no interest", Check.told(HEAD + "debit 5000 over 5000 limit 1000;").most(0), 1000);
    }

    @Says(at = "35", text = "NONE: not even 0; -2: there is none such.")
    static void p35NotEven0OrNoSuchDay() {
        ValueDays x = Check.told(OWED);
        Check.due("not even 0", x.most(0), -1);
        Check.due("not even 0", x.most(1), -1);
        Check.due("by 1 on the last day", Check.told(HEAD + "draw 19 1;").most(0), -1);
        Check.due("by a lower limit", Check.told(HEAD + "from 0 limit 5;draw 0 5;from 19 limit 4;").most(0), -1);
        for (int day : Check.outside(0, 7)) {
            Check.due("day " + day, x.most(day), -2);
        }
        Check.due("no book", new ValueDays().most(0), -2);
    }

    @Says(at = "36", text = "The least (0 .. 999999) that must be paid with VALUE of a DAY so that on no DAY from then on more is owed than LIMIT.")
    static void p36TheLeastThatMustBePaid() {
        ValueDays x = Check.told(OWED);
        Check.due("200 above it", x.least(0), 200);
        Check.due("on day 1 still", x.least(1), 200);
        Check.due("days ahead do not count", x.least(2), 0);
        Check.due("the last day", x.least(7), 0);
        Check.due("1 on the last day", Check.told(HEAD + "draw 19 1;").least(0), 1);
        Check.due("nothing owed", Check.told(HEAD).least(0), 0);
        Check.due("as much as LIMIT", Check.told(HEAD + "from 0 limit 5;draw 0 5;").least(0), 0);
        x = Check.told(MILLION.replace("pay", "draw"));
        Check.due("999990 less 9", x.least(0), 999981);
        x.draw(19, 18);
        Check.due("999999", x.least(19), 999999);
    }

    @Says(at = "36", text = "NONE: that does not do; -2: there is none such.")
    static void p36ThatDoesNotDoOrNoSuchDay() {
        ValueDays x = Check.told(MILLION.replace("pay", "draw"));
        x.draw(19, 19);
        Check.due("1000000 would do", x.least(0), -1);
        Check.due("ahead of it", x.least(19), -1);
        for (int day : Check.outside(0, 19)) {
            Check.due("day " + day, x.least(day), -2);
        }
        Check.due("no book", new ValueDays().least(0), -2);
    }

    @Says(at = "37", text = "The least amount (1 .. 99999) paid with VALUE of a DAY by which ALL would be n more, or above (n 1 .. 99999).")
    static void p37TheLeastThatBringsSoMuch() {
        ValueDays x = Check.told(PAID);
        Check.due("two halves", x.needs(0, 1), 50);
        Check.due("or above: 2 by the same", x.needs(0, 2), 50);
        Check.due("3", x.needs(0, 3), 150);
        Check.due("on the last day", x.needs(19, 1), 500);
        Check.due("the most there", x.needs(19, 100), 99500);
        Check.due("1 is enough", Check.told(HEAD + "tier 3600;pay 0 49;").needs(0, 1), 1);
        Check.due("99999", Check.told("book days 10 periods 1 compound 1;tier 3600;pay 0 51;").needs(0, 1000), 99999);
        // The most of all: 40 days of 8 periods, all of it.
        x = Check.told("book days 40 periods 8 compound 1;tier 5000;");
        Check.due("8 times 5554.5", x.needs(0, 44440), 99981);
        Check.due("8 times 5555.5", x.needs(0, 44448), 99999);
    }

    @Says(at = "37", text = "NONE: that does not do; -2: there are none such.")
    static void p37ThatDoesNotDoOrNoneSuch() {
        ValueDays x = Check.told(PAID);
        Check.due("101 on the last day", x.needs(19, 101), -1);
        Check.due("99999", x.needs(0, 99999), -1);
        Check.due("without rates", Check.told(HEAD).needs(0, 1), -1);
        Check.due("100000 would do", Check.told("book days 10 periods 1 compound 1;tier 3600;pay 0 50;").needs(0, 1000), -1);
        for (int day : Check.outside(0, 19)) {
            Check.due("day " + day, x.needs(day, 1), -2);
        }
        for (int n : Check.outside(1, 99999)) {
            Check.due("n " + n, x.needs(0, n), -2);
        }
        Check.due("no book", new ValueDays().needs(0, 1), -2);
    }

    // ---- 38 to 40: who brought what

    @Says(at = "38", text = "PRODUCTS of a TIER's PARTS (PART times RATE) of all DAYS of a PERIOD, together.")
    static void p38EarnedByATier() {
        ValueDays x = Check.told(HEAD + "tier 7 to 10;tier 9;from 9 tier 0 5;pay 0 12;draw 15 12;");
        Check.due("tier 0", x.earned(0, 0), 9 * 10 * 7 + 10 * 5);
        Check.due("tier 1", x.earned(0, 1), 10 * 2 * 9);
        Check.due("tier 0 later", x.earned(1, 0), 5 * 10 * 5);
        Check.due("tier 1 later", x.earned(1, 1), 5 * 2 * 9);
        Check.due("nothing below 0", Check.told(HEAD + "tier 7;draw 0 5;").earned(0, 0), 0);
    }

    @Says(at = "38", text = "NO_SUCH: there are none such.")
    static void p38NoSuchPeriodOrTier() {
        ValueDays x = Check.told(HEAD + "tier 7 to 10;tier 9;");
        for (int bad : Check.outside(0, 1)) {
            Check.due("period " + bad, x.earned(bad, 0), Check.NO_SUCH);
            Check.due("tier " + bad, x.earned(0, bad), Check.NO_SUCH);
        }
        Check.due("no tiers", Check.told(HEAD).earned(0, 0), Check.NO_SUCH);
        Check.due("no book", new ValueDays().earned(0, 0), Check.NO_SUCH);
    }

    @Says(at = "39", text = "How much more INTEREST of a PERIOD is than it would be without an ENTRY (other ones staying).")
    static void p39WhatAnEntryCaused() {
        ValueDays x = Check.told(PAID + "close;draw 12 500;");
        long[][] want = {{10, 10}, {10, 20}, {0, 0}, {0, -4}};
        for (int entry = 0; entry < 4; entry++) {
            for (int period = 0; period < 2; period++) {
                Check.due("entry " + entry + ", period " + period, x.caused(entry, period), want[entry][period]);
            }
        }
        x = Check.told(HEAD + "tier 3600;pay 0 50000;close;");
        Check.due("its interest stays", x.caused(0, 1), 500);
        Check.due("the interest itself", x.caused(1, 1), 5);
        Check.due("not ahead of its day", x.caused(1, 0), 0);
    }

    @Says(at = "39", text = "NO_SUCH: there are none such.")
    static void p39NoSuchEntryOrPeriod() {
        ValueDays x = Check.told(PAID);
        for (int bad : Check.outside(0, 1)) {
            Check.due("entry " + bad, x.caused(bad, 0), Check.NO_SUCH);
            Check.due("period " + bad, x.caused(0, bad), Check.NO_SUCH);
        }
        Check.due("no book", new ValueDays().caused(0, 0), Check.NO_SUCH);
    }

    @Says(at = "40", text = "The ENTRY of which caused() for a PERIOD is greatest without sign, the first of several.")
    static void p40TheFirstOfTheGreatest() {
        ValueDays x = Check.told(PAID + "close;draw 12 500;");
        Check.due("10 and 10: the first", x.blame(0), 0);
        Check.due("10 and 20", x.blame(1), 1);
        x.draw(10, 20000);
        Check.due("-26, without sign", x.blame(1), 4);
        x = Check.told(HEAD + "tier 3600;pay 0 9000;draw 0 1000;pay 0 1000;");
        Check.due("the first by number", x.blame(0), 0);
        x = Check.told(HEAD + "tier 3600;draw 0 1000;pay 0 1000;pay 0 9000;");
        Check.due("-10, 10, 90", x.blame(0), 2);
        Check.due("1 is greatest", Check.told(HEAD + "tier 3600;pay 0 1;pay 9 1000;").blame(0), 1);
        x = Check.told(HEAD + "tier 3600;draw 1 1000;pay 1 1000;pay 1 1000;");
        Check.due("9 and 9 and 9", x.blame(0), 0);
    }

    @Says(at = "40", text = "NONE: all are 0; -2: there is none such.")
    static void p40AllAre0OrNoSuchPeriod() {
        Check.due("no entries", Check.told(HEAD).blame(0), -1);
        Check.due("without rates", Check.told(HEAD + "pay 0 5;").blame(0), -1);
        Check.due("in a later one", Check.told(HEAD + "tier 3600;pay 10 5000;").blame(0), -1);
        ValueDays x = Check.told(PAID);
        for (int period : Check.outside(0, 1)) {
            Check.due("period " + period, x.blame(period), -2);
        }
        Check.due("no book", new ValueDays().blame(0), -2);
    }
}
