/** Each sentence of promises 41 to 55, with the edges it names. Rate 3600: 1 of 1000 a day. */
public final class Sentences41To55Test {
    private static final String HEAD = "book days 10 periods 2 compound 1;";
    private static final String PAID = HEAD + "tier 3600;pay 0 1000;pay 5 2000;";
    private static final String GROWS = HEAD + "tier 3600;pay 0 50000;";
    private static final String LATE = "book days 10 periods 3 compound 1;tier 3600;pay 0 50000;close;close;pay 0 50000;";

    public static void main(String[] args) throws Exception {
        Sentences.run(Sentences41To55Test.class, Sentences.promises(41, 55));
    }

    // ---- 41 to 45

    @Says(at = "41", text = "Of ENTRIES of a PAGE those with a VALUE day ahead of its PERIOD, what 0: how many, 1: amounts together;"
        + " behind its PERIOD, 2: how many, 3: amounts together.")
    static void p41BackdatedAndAhead() {
        ValueDays x = Check.told("book days 10 periods 3 compound 1;pay 0 5;pay 9 6;pay 10 7;draw 29 8;close;");
        // Interest of 0 has the first day behind its period.
        long[] first = {0, 0, 3, -1};
        for (int what = 0; what < 4; what++) {
            Check.due("page 0, " + what, x.backdated(0, what), first[what]);
        }
        x.pay(9, 20);
        x.draw(0, 1);
        x.pay(10, 300);
        x.pay(19, 4000);
        x.draw(20, 50);
        Check.due("the first entry of all", Check.told(HEAD + "pay 10 5;").backdated(0, 3), 5);
        long[] second = {2, 19, 1, -50};
        for (int what = 0; what < 4; what++) {
            Check.due("page 1, " + what, x.backdated(1, what), second[what]);
            Check.due("an empty page, " + what, x.backdated(2, what), 0);
        }
    }

    @Says(at = "41", text = "NO_SUCH: there are none such.")
    static void p41NoSuchPageOrWhat() {
        ValueDays x = Check.told(HEAD);
        for (int period : Check.outside(0, 1)) {
            for (int what = 0; what < 4; what++) {
                Check.due("page " + period, x.backdated(period, what), Check.NO_SUCH);
            }
        }
        for (int what : Check.outside(0, 3)) {
            Check.due("what " + what, x.backdated(0, what), Check.NO_SUCH);
        }
        Check.due("no book", new ValueDays().backdated(0, 0), Check.NO_SUCH);
    }

    @Says(at = "42", text = "The first DAY on which BALANCE is an amount (-99999 .. 99999), or above.")
    static void p42TheFirstDayThatReaches() {
        ValueDays x = Check.told(HEAD + "draw 0 7;pay 3 7;pay 8 99999;draw 9 99999;pay 19 1;");
        int[][] want = {{-99999, 0}, {-7, 0}, {-6, 3}, {0, 3}, {1, 8}, {99999, 8}};
        for (int[] w : want) {
            Check.due("reaches " + w[0], x.reaches(w[0]), w[1]);
        }
        Check.due("the last day", Check.told(HEAD + "pay 19 5;").reaches(5), 19);
        Check.due("0 on day 0", Check.told(HEAD).reaches(0), 0);
        Check.due("-99999 as it is", Check.told(HEAD + "draw 0 99999;").reaches(-99999), 0);
    }

    @Says(at = "42", text = "NONE: none; -2: there are none such, no BOOK.")
    static void p42NoneReachesOrNoneSuch() {
        Check.due("1 of nothing", Check.told(HEAD).reaches(1), -1);
        Check.due("1 more than there ever is", Check.told(HEAD + "pay 3 5;").reaches(6), -1);
        Check.due("-99999 is not reached", Check.told(HEAD + "draw 0 99999;draw 0 1;").reaches(-99999), -1);
        for (int amount : Check.outside(-99999, 99999)) {
            Check.due("amount " + amount, Check.told(HEAD).reaches(amount), -2);
        }
        Check.due("no book", new ValueDays().reaches(0), -2);
    }

    @Says(at = "43", text = "The least LIMIT (0 .. 99999) by which, on all DAYS, beyond() would be 0.")
    static void p43TheLeastLimit() {
        Check.due("nothing owed", Check.told(HEAD).limitFor(), 0);
        Check.due("paid", Check.told(HEAD + "pay 0 5;").limitFor(), 0);
        Check.due("1", Check.told(HEAD + "draw 0 1;").limitFor(), 1);
        Check.due("the most owed", Check.told(HEAD + "draw 3 5;draw 4 6;pay 5 20;draw 19 19;").limitFor(), 11);
        Check.due("on all days, whatever it is now", Check.told(HEAD + "draw 19 7;from 0 limit 99999;").limitFor(), 7);
        Check.due("99999", Check.told(HEAD + "draw 19 99999;").limitFor(), 99999);
    }

    @Says(at = "43", text = "NONE: that does not do; -2: there is no BOOK.")
    static void p43ThatDoesNotDo() {
        Check.due("100000 would do", Check.told(HEAD + "draw 0 99999;draw 19 1;").limitFor(), -1);
        Check.due("no book", new ValueDays().limitFor(), -2);
    }

    @Says(at = "44", text = "The least R (1 .. 5000) by which tilted() of a TIER is n (1 .. 99999), or above.")
    static void p44TheLeastTilt() {
        ValueDays x = Check.told(PAID);
        Check.due("half of 1 in the second", x.tiltFor(0, 1), 60);
        Check.due("70", x.tiltFor(0, 70), 4980);
        Check.due("1 is enough", Check.told("book days 10 periods 1 compound 1;tier 1799;pay 0 100;").tiltFor(0, 1), 1);
        // 720 on ten days at 5000 more: 10; at 4999 more 9.998, which is 10, too, and 4750 are 9.5.
        x = Check.told("book days 10 periods 1 compound 1;tier 0;pay 0 720;");
        Check.due("9.5", x.tiltFor(0, 10), 4750);
        x = Check.told("book days 10 periods 1 compound 1;tier 0;pay 0 684;");
        Check.due("5000: 9.5", x.tiltFor(0, 10), 5000);
        Check.due("of tier 1", Check.told("book days 10 periods 1 compound 1;tier 0 to 1;tier 0;pay 0 685;").tiltFor(1, 10), 5000);
    }

    @Says(at = "44", text = "NONE: that does not do; -2: there are none such.")
    static void p44ThatDoesNotDoOrNoneSuch() {
        ValueDays x = Check.told(PAID);
        Check.due("71", x.tiltFor(0, 71), -1);
        Check.due("99999", x.tiltFor(0, 99999), -1);
        Check.due("nothing there", Check.told(HEAD + "tier 5;").tiltFor(0, 1), -1);
        Check.due("5001 would do", Check.told("book days 10 periods 1 compound 1;tier 0;pay 0 683;").tiltFor(0, 10), -1);
        for (int tier : Check.outside(0, 0)) {
            Check.due("tier " + tier, x.tiltFor(tier, 1), -2);
        }
        for (int n : Check.outside(1, 99999)) {
            Check.due("n " + n, x.tiltFor(0, n), -2);
        }
        Check.due("no book", new ValueDays().tiltFor(0, 1), -2);
    }

    @Says(at = "45", text = "On how many unlike VALUE days, none behind the last DAY of a PERIOD, there are ENTRIES.")
    static void p45UnlikeValueDays() {
        ValueDays x = Check.told("book days 10 periods 3 compound 1;pay 9 1;pay 0 1;draw 9 1;pay 10 1;pay 29 1;pay 19 1;");
        int[] want = {2, 4, 5};
        for (int period = 0; period < 3; period++) {
            Check.due("period " + period, x.bears(period), want[period]);
        }
        Check.due("no entries", Check.told(HEAD).bears(1), 0);
        x = Check.told(HEAD + "close;close;");
        Check.due("interest of 0 on day 10", x.bears(1), 1);
        Check.due("not ahead of it", x.bears(0), 0);
    }

    @Says(at = "45", text = "-2: there is none such.")
    static void p45NoSuchPeriod() {
        ValueDays x = Check.told(PAID);
        for (int period : Check.outside(0, 1)) {
            Check.due("period " + period, x.bears(period), -2);
        }
        Check.due("no book", new ValueDays().bears(0), -2);
    }

    // ---- 46 to 48: what a rerun would book, settled

    @Says(at = "46", text = "How many ENTRIES a RERUN would book now.")
    static void p46WhatARerunWouldBook() {
        Check.due("two", Check.told(LATE).rights(), 2);
        Check.due("none closed", Check.told(GROWS).rights(), 0);
        Check.due("nothing unlike", Check.told(GROWS + "close;").rights(), 0);
        Check.due("less than a half", Check.told("book days 2 periods 2 compound 1;tier 1800;close;pay 1 999;").rights(), 0);
        Check.due("a half", Check.told("book days 2 periods 2 compound 1;tier 1800;close;pay 1 1000;").rights(), 1);
        Check.due("by the correction ahead alone",
            Check.told("book days 10 periods 3 compound 1;tier 3600;close;close;pay 0 99999;draw 10 99999;").rights(), 2);
        Check.due("two that even out", Check.told("book days 10 periods 3 compound 3;tier 3600;debit 3600 over 3600 limit 0;close;close;"
            + "pay 0 1000;draw 10 2000;").rights(), 2);
        ValueDays x = Check.told(LATE);
        Check.due("asked", x.rights(), 2);
        Check.due("none is booked by asking", x.count(5), 4);
        Check.due("as many as told", x.rerun(), 2);
        Check.due("then none", x.rights(), 0);
    }

    @Says(at = "46", text = "-2: there is no BOOK, no open PERIOD.")
    static void p46NoBookNoOpenPeriod() {
        Check.due("no book", new ValueDays().rights(), -2);
        Check.due("no open period", Check.told(HEAD + "close;close;").rights(), -2);
        Check.due("the last one is open", Check.told(HEAD + "close;").rights(), 0);
    }

    @Says(at = "47", text = "Amounts of these together.")
    static void p47WhatTheyAreTogether() {
        Check.due("500 and 505", Check.told(LATE).righted(), 1005);
        Check.due("none", Check.told(GROWS + "close;").righted(), 0);
        Check.due("below 0", Check.told(GROWS + "close;draw 0 20000;").righted(), -200);
        Check.due("evened out", Check.told("book days 10 periods 3 compound 3;tier 3600;debit 3600 over 3600 limit 0;close;close;"
            + "pay 0 1000;draw 10 2000;").righted(), 0);
    }

    @Says(at = "47", text = "NO_SUCH likewise.")
    static void p47NoBookNoOpenPeriod() {
        Check.due("no book", new ValueDays().righted(), Check.NO_SUCH);
        Check.due("no open period", Check.told(HEAD + "close;close;").righted(), Check.NO_SUCH);
    }

    @Says(at = "48", text = "SETTLED (III).")
    static void p48Settled() {
        Check.due("500 and 505", Check.told(GROWS).settled(), 51005);
        Check.due("nothing", Check.told(HEAD).settled(), 0);
        Check.due("below 0", Check.told(HEAD + "draw 19 5;").settled(), -5);
        Check.due("none is open", Check.told(GROWS + "close;close;").settled(), 51005);
        Check.due("none is open: nothing is put right", Check.told(GROWS + "close;pay 0 50000;close;").settled(), 100000 + 500 + 1005);
    }

    @Says(at = "48", text = "NO_SUCH: there is no BOOK.")
    static void p48NoBook() {
        Check.due("no book", new ValueDays().settled(), Check.NO_SUCH);
    }

    // ---- 49 to 52: other compounding, plans

    @Says(at = "49", text = "How much more SETTLED would be, were K another one (1 .. 4) from the first LINE on, all LINES, acts done as they came"
        + " (what reverse() turned back: the same one paid or drawn, whatever its number then).")
    static void p49AnotherK() {
        ValueDays x = Check.told(GROWS);
        int[] more = {0, -5, -5, -5};
        for (int k = 1; k <= 4; k++) {
            Check.due("K " + k, x.compounded(k), more[k - 1]);
        }
        Check.due("K stays", x.count(2), 1);
        x.close();
        x.close();
        Check.due("none is open: as they came", x.compounded(4), -5);
        Check.due("entries stay", x.entry(1, 2), 10);
        // By K 1 the rerun books two, by K 3 one: what is turned back, 7, has number 6 there, and 7 is another one.
        x = Check.told("book days 10 periods 3 compound 1;tier 3600;pay 0 1000;close;close;pay 0 50000;draw 10 50000;rerun;");
        Check.due("pay", x.pay(0, 50000), 7);
        Check.due("pay", x.pay(20, 10000), 8);
        Check.due("turned back", x.reverse(7), 9);
        // 1000, 10000; by K 1 10 and 500, 15, then of 11525: 115; by K 3 510, 10, 110.
        Check.due("settled", x.settled(), 11000 + 510 + 15 + 115);
        Check.due("K 3", x.compounded(3), 510 + 10 + 110 - (510 + 15 + 115));
        Check.due("its number stays", x.entry(9, 5), 7);
        Check.due("a single period", Check.told("book days 10 periods 1 compound 1;tier 3600;pay 0 50000;").compounded(4), 0);
        Check.due("1 of 4", Check.told(GROWS.replace("compound 1", "compound 4")).compounded(1), 5);
    }

    @Says(at = "49", text = "NO_SUCH: there are none such.")
    static void p49NoSuchK() {
        ValueDays x = Check.told(GROWS);
        for (int k : Check.outside(1, 4)) {
            Check.due("K " + k, x.compounded(k), Check.NO_SUCH);
        }
        Check.due("no book", new ValueDays().compounded(1), Check.NO_SUCH);
    }

    @Says(at = "50", text = "INTEREST of a PERIOD, by all RATES as known now, were there no ENTRIES but those of SORT 0 that are not turned back,"
        + " and, PERIOD by PERIOD, the first first, one of INTEREST of each by its COMPOUNDING day.")
    static void p50IdealInterest() {
        ValueDays x = Check.told("book days 10 periods 3 compound 2;tier 3600;pay 0 50000;close;");
        long[] want = {500, 500, 510};
        for (int period = 0; period < 3; period++) {
            Check.due("period " + period, x.ideal(period), want[period]);
        }
        x.pay(0, 50000);
        Check.due("what is late counts from its day on", x.ideal(0), 1000);
        x.reverse(2);
        Check.due("what is turned back is not there", x.ideal(0), 500);
        x.reverse(0);
        Check.due("nor is its interest that was booked", x.ideal(2), 0);
        x.undo();
        x.change(0, 0, 1800);
        Check.due("rates as known now", x.ideal(0), 250);
        Check.due("nothing there", Check.told(HEAD).ideal(1), 0);
        Check.due("less than a half", Check.told("book days 2 periods 2 compound 1;tier 1800;pay 1 999;").ideal(0), 0);
        Check.due("a half", Check.told("book days 2 periods 2 compound 1;tier 1800;pay 1 1000;").ideal(0), 1);
        Check.due("closed ones, too", Check.told(GROWS + "close;close;").ideal(1), 505);
    }

    @Says(at = "50", text = "NO_SUCH: there is none such.")
    static void p50NoSuchPeriod() {
        ValueDays x = Check.told(GROWS);
        for (int period : Check.outside(0, 1)) {
            Check.due("period " + period, x.ideal(period), Check.NO_SUCH);
        }
        Check.due("no book", new ValueDays().ideal(0), Check.NO_SUCH);
    }

    @Says(at = "51", text = "SETTLED, were n (1 .. 8) ENTRIES of SORT 0 paid now, each of an amount (0 .. 99999; of 0: none is),"
        + " the first with VALUE of a DAY, each next one P days later.")
    static void p51Planned() {
        ValueDays x = Check.told(GROWS);
        Check.due("of 0: none is", x.planned(0, 1, 0), 51005);
        Check.due("of 0: none is", x.planned(9, 2, 0), 51005);
        Check.due("1", x.planned(0, 1, 1), 51006);
        // 51000: 510, 515.1; 51000, then 52510: 525.1.
        Check.due("one", x.planned(0, 1, 1000), 51000 + 510 + 515);
        Check.due("two", x.planned(0, 2, 1000), 52000 + 510 + 525);
        Check.due("99999 on the last day", x.planned(19, 1, 99999), 149999 + 500 + 605);
        Check.due("a late one", Check.told(GROWS + "close;").planned(0, 1, 1000), 51000 + 510 + 515);
        Check.due("eight", Check.told("book days 40 periods 8 compound 1;").planned(39, 8, 99999), 8 * 99999);
        Check.due("nothing came", x.count(5), 1);
    }

    @Says(at = "51", text = "NO_SUCH: there are none such (all on DAYS there are), no PERIOD is open.")
    static void p51NoneSuchOrNoneOpen() {
        ValueDays x = Check.told(GROWS);
        for (int day : Check.outside(0, 19)) {
            Check.due("day " + day, x.planned(day, 1, 1), Check.NO_SUCH);
        }
        for (int n : Check.outside(1, 8)) {
            Check.due("n " + n, x.planned(0, n, 1), Check.NO_SUCH);
        }
        for (int amount : Check.outside(0, 99999)) {
            Check.due("amount " + amount, x.planned(0, 1, amount), Check.NO_SUCH);
        }
        for (int day = -10; day < 0; day++) {
            Check.due("the first ahead of all days, the second on one", x.planned(day, 2, 0), Check.NO_SUCH);
        }
        for (int day = 0; day < 20; day++) {
            Check.due("none", x.planned(day, 0, 0), Check.NO_SUCH);
            Check.due("less than none", x.planned(day, -1, 0), Check.NO_SUCH);
        }
        Check.due("none from behind the last day", x.planned(20, 0, 0), Check.NO_SUCH);
        Check.due("the second on the last day", x.planned(9, 2, 0), 51005);
        Check.due("the second behind it", x.planned(10, 2, 0), Check.NO_SUCH);
        Check.due("the third behind it", x.planned(0, 3, 0), Check.NO_SUCH);
        Check.due("nine of eight", Check.told("book days 2 periods 8 compound 1;").planned(0, 9, 0), Check.NO_SUCH);
        Check.due("eight of eight", Check.told("book days 2 periods 8 compound 1;").planned(1, 8, 0), 0);
        Check.due("none is open", Check.told(HEAD + "close;close;").planned(0, 1, 0), Check.NO_SUCH);
        Check.due("no book", new ValueDays().planned(0, 1, 0), Check.NO_SUCH);
    }

    @Says(at = "52", text = "The least amount (0 .. 99999) by which that is 0, or above.")
    static void p52TheLeastPlan() {
        Check.due("0: nothing is owed", Check.told(HEAD).plan(0, 1), 0);
        Check.due("0: evened out", Check.told(HEAD + "draw 0 2;pay 19 2;").plan(0, 2), 0);
        Check.due("1", Check.told(HEAD + "draw 0 1;").plan(19, 1), 1);
        Check.due("1 of two", Check.told(HEAD + "draw 0 1;").plan(0, 2), 1);
        Check.due("501 of two, or above", Check.told(HEAD + "draw 0 1001;").plan(9, 2), 501);
        Check.due("99999", Check.told(HEAD + "draw 0 99999;").plan(0, 1), 99999);
        Check.due("99999 of eight", Check.told("book days 2 periods 8 compound 1;" + "draw 0 99999;".repeat(8)).plan(0, 8), 99999);
        ValueDays x = Check.told(HEAD + "debit 3600 over 0 limit 5000;draw 0 1000;");
        Check.due("with interest that falls away", x.plan(0, 1), 1000);
        Check.due("with ten days' of it", x.plan(10, 1), 1010);
        Check.due("with nearly all of it", x.plan(19, 1), 1019);
        Check.due("by which that is 0", x.planned(19, 1, 1019), 0);
        Check.due("1 less does not do", x.planned(19, 1, 1018), -1);
    }

    @Says(at = "52", text = "NONE: that does not do; -2 likewise.")
    static void p52ThatDoesNotDoOrNoneSuch() {
        Check.due("100000 would do", Check.told(HEAD + "draw 0 99999;draw 0 1;").plan(0, 1), -1);
        Check.due("by two it does", Check.told(HEAD + "draw 0 99999;draw 0 1;").plan(0, 2), 50000);
        ValueDays x = Check.told(GROWS);
        for (int day : Check.outside(0, 19)) {
            Check.due("day " + day, x.plan(day, 1), -2);
        }
        for (int n : Check.outside(1, 8)) {
            Check.due("n " + n, x.plan(0, n), -2);
        }
        Check.due("the second behind the last day", x.plan(10, 2), -2);
        Check.due("the first ahead of all days", x.plan(-5, 2), -2);
        Check.due("none", x.plan(15, 0), -2);
        Check.due("none is open", Check.told(HEAD + "close;close;").plan(0, 1), -2);
        Check.due("no book", new ValueDays().plan(0, 1), -2);
    }

    // ---- 53 to 55: paid off

    @Says(at = "53", text = "What is left of an ENTRY's amount (without sign) when all is PAID OFF (IV).")
    static void p53WhatIsLeft() {
        ValueDays x = Check.told(HEAD + "draw 5 300;pay 2 100;pay 7 500;draw 1 50;");
        long[] left = {0, 0, 250, 0};
        for (int entry = 0; entry < 4; entry++) {
            Check.due("entry " + entry, x.left(entry), left[entry]);
        }
        x.draw(9, 1000);
        Check.due("without sign", x.left(4), 750);
        Check.due("all of it", Check.told(HEAD + "draw 5 300;").left(0), 300);
        Check.due("of 0", Check.told(HEAD + "close;").left(0), 0);
    }

    @Says(at = "53", text = "NO_SUCH: there is none such.")
    static void p53NoSuchEntry() {
        ValueDays x = Check.told(PAID);
        for (int entry : Check.outside(0, 1)) {
            Check.due("entry " + entry, x.left(entry), Check.NO_SUCH);
        }
        Check.due("no book", new ValueDays().left(0), Check.NO_SUCH);
    }

    @Says(at = "54", text = "The VALUE day of an ENTRY, or of the one by which the last of it went, whichever is later.")
    static void p54WhenItWent() {
        ValueDays x = Check.told(HEAD + "draw 5 300;pay 2 100;pay 7 500;draw 1 50;");
        // 50 of day 1 by day 2; 300 of day 5 by 50 of day 2, then by day 7.
        Check.due("by the last of two", x.gone(0), 7);
        Check.due("its own day is earlier", x.gone(1), 5);
        Check.due("its own day is earlier", x.gone(3), 2);
        x = Check.told(HEAD + "draw 9 5;pay 2 5;");
        Check.due("its own day is later", x.gone(0), 9);
        Check.due("the other one's is", x.gone(1), 9);
        Check.due("of one day", Check.told(HEAD + "draw 0 5;pay 0 5;").gone(0), 0);
        x = Check.told(HEAD.replace("compound 1", "compound 2") + "tier 3600;pay 0 1000;close;draw 0 1010;");
        Check.due("behind the last day", x.gone(2), 20);
    }

    @Says(at = "54", text = "NONE: some is left, its amount is 0; -2: there is none such.")
    static void p54SomeIsLeftOrNone() {
        ValueDays x = Check.told(HEAD + "draw 5 6;pay 2 5;close;");
        Check.due("1 is left", x.gone(0), -1);
        Check.due("nothing of this", x.gone(1), 5);
        Check.due("its amount is 0", x.gone(2), -1);
        Check.due("all is left", Check.told(HEAD + "pay 0 5;").gone(0), -1);
        for (int entry : Check.outside(0, 2)) {
            Check.due("entry " + entry, x.gone(entry), -2);
        }
        Check.due("no book", new ValueDays().gone(0), -2);
    }

    @Says(at = "55", text = "The ENTRY below 0 of which some is left with the earliest VALUE day, the first of several.")
    static void p55TheOldestOwed() {
        Check.due("the earliest day", Check.told(HEAD + "draw 5 1;draw 3 1;draw 9 1;").oldest(), 1);
        Check.due("the first of several", Check.told(HEAD + "draw 5 1;draw 3 1;draw 3 1;").oldest(), 1);
        Check.due("of which some is left", Check.told(HEAD + "draw 5 1;draw 3 1;draw 3 1;pay 19 1;").oldest(), 2);
        Check.due("of which 1 is left", Check.told(HEAD + "draw 5 1;draw 3 2;pay 19 1;").oldest(), 1);
        Check.due("the last of them", Check.told(HEAD + "draw 5 1;draw 3 1;draw 3 1;pay 19 2;").oldest(), 0);
        Check.due("interest, too", Check.told(HEAD + "from 0 over 3600;draw 0 1000;close;pay 0 1000;").oldest(), 1);
    }

    @Says(at = "55", text = "NONE: there is none; -2: there is no BOOK.")
    static void p55NoneOwed() {
        Check.due("no entries", Check.told(HEAD).oldest(), -1);
        Check.due("paid alone", Check.told(HEAD + "pay 0 5;").oldest(), -1);
        Check.due("all paid off", Check.told(HEAD + "draw 0 5;pay 19 5;").oldest(), -1);
        Check.due("of 0 alone", Check.told(HEAD + "close;").oldest(), -1);
        Check.due("no book", new ValueDays().oldest(), -2);
    }
}
