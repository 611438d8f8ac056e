/** Each sentence of Terms I, the text, with the edges it names. Rate 3600: 1 of 1000 a day. */
public final class SentencesOfTextTest {
    private static final String HEAD = "book days 10 periods 2 compound 1;";
    private static final String[] FROM_RATES = {"from 0 tier 0 ", "from 0 debit ", "from 0 over "};

    public static void main(String[] args) throws Exception {
        Sentences.run(SentencesOfTextTest.class, "Terms I");
    }

    // ---- lines

    @Says(at = "Terms I", text = "TEXT: {LINE ;}.")
    static void textIsLinesEachWithItsSign() {
        Check.taken("", 0);
        Check.taken(" \n \n", 0);
        Check.taken(HEAD, 1);
        Check.taken(HEAD + "close;close;", 3);
        Check.refused("", ";", 1);
        Check.refused(HEAD, ";", 1);
        Check.refused(HEAD + "close;", ";", 1);
        Check.refused("book days 10 periods 2 compound 1", "", 1);
        Check.refused(HEAD + "close", "", 1);
        Check.refused(HEAD + "close ", "close;", 1);
    }

    @Says(at = "Terms I", text = "LINE: book days P periods N compound K | tier R [to B] | debit R over R limit L | from D tier T R"
        + " | from D debit R | from D over R | from D limit L | pay V A | draw V A | close | rerun.")
    static void lineHasElevenForms() {
        String[] forms = {"tier 1 to 9", "tier 1", "debit 1 over 2 limit 3", "from 0 debit 1", "from 0 over 1", "from 0 limit 1",
            "pay 0 1", "draw 0 1", "rerun", "close"};
        for (String form : forms) {
            Check.taken(HEAD + form + ";", 2);
            Check.refused(HEAD + form + " ", "1;", 1);
            Check.refused(HEAD + form + " ", "limit;", 1);
            String[] pieces = form.split(" ");
            String told = HEAD;
            for (String piece : pieces) {
                // Without a piece the sign stands in its place: only "to B" may be left out.
                if (!told.endsWith("tier 1 ")) {
                    Check.refused(told, ";", 1);
                }
                told += piece + " ";
            }
        }
        Check.taken(HEAD + "tier 1;from 0 tier 0 1;", 3);
        Check.refused(HEAD + "tier 1;from 0 tier 0 1 ", "1;", 1);
        Check.refused(HEAD + "tier 1;from 0 tier 0", ";", 1);
        Check.refused(HEAD + "tier 1;from 0 tier", ";", 1);
        Check.refused("book ", "10 periods 2 compound 1;", 1);
        Check.refused("book days ", "periods 2 compound 1;", 1);
        Check.refused("book days 10 ", "2 compound 1;", 1);
        Check.refused("book days 10 periods 2 ", "1;", 1);
        Check.refused("book days 10 periods 2 compound", ";", 1);
    }

    @Says(at = "Terms I", text = "book is the first LINE and no other: P 2 .. 40, N 1 .. 8, K 1 .. 4.")
    static void bookIsFirstAloneAndHasBounds() {
        Check.taken("book days 2 periods 1 compound 1;", 1);
        Check.taken("book days 40 periods 8 compound 4;", 1);
        for (String p : new String[] {"0", "1", "41", "4294967306"}) {
            Check.refused("book days ", p + " periods 2 compound 1;", 2);
        }
        for (String n : new String[] {"0", "9", "4294967297"}) {
            Check.refused("book days 10 periods ", n + " compound 1;", 2);
        }
        for (String k : new String[] {"0", "5", "4294967297", "18446744073709551617"}) {
            Check.refused("book days 10 periods 2 compound ", k + ";", 2);
        }
        Check.refused(HEAD, HEAD, 1);
        Check.refused(HEAD + "tier 5;", HEAD, 1);
        Check.refused("", "tier 5;" + HEAD, 1);
    }

    @Says(at = "Terms I", text = "DAYS 0 .. P times N, less 1; PERIOD p has P of them, from p times P on.")
    static void daysAndTheirPeriods() {
        ValueDays x = Check.told("book days 40 periods 8 compound 1;tier 3600;pay 319 1000;");
        Check.due("the last day", x.balance(319), 1000);
        Check.due("behind it", x.balance(320), Check.NO_SUCH);
        Check.due("ahead of the first", x.balance(-1), Check.NO_SUCH);
        Check.due("its period", x.fresh(7), 1);
        Check.due("no period", x.fresh(8), Check.NO_SUCH);
        Check.due("no period", x.fresh(-1), Check.NO_SUCH);
        Check.refused("book days 40 periods 8 compound 1;pay ", "320 1;", 2);
        // On day 39 alone, the last of period 0; then on day 40 alone, the first of period 1.
        x = Check.told("book days 40 periods 8 compound 1;tier 3600;pay 39 1000;draw 40 1000;");
        Check.due("day 39", x.fresh(0), 1);
        Check.due("day 39", x.fresh(1), 0);
        x = Check.told("book days 40 periods 8 compound 1;tier 3600;pay 40 1000;draw 41 1000;");
        Check.due("day 40", x.fresh(0), 0);
        Check.due("day 40", x.fresh(1), 1);
        x = Check.told("book days 2 periods 1 compound 1;pay 1 5;");
        Check.due("day 1 of 2", x.balance(1), 5);
        Check.due("day 2 of 2", x.balance(2), Check.NO_SUCH);
    }

    @Says(at = "Terms I", text = "RATES R 0 .. 5000.")
    static void ratesHaveBounds() {
        Check.taken(HEAD + "tier 0;debit 0 over 0 limit 0;from 0 tier 0 0;from 0 debit 0;from 0 over 0;", 6);
        Check.taken(HEAD + "tier 5000;debit 5000 over 5000 limit 0;from 0 tier 0 5000;from 0 debit 5000;from 0 over 5000;", 6);
        for (String rate : new String[] {"5001", "99999", "4294967296"}) {
            Check.refused(HEAD + "tier ", rate + ";", 2);
            Check.refused(HEAD + "debit ", rate + " over 0 limit 0;", 2);
            Check.refused(HEAD + "debit 0 over ", rate + " limit 0;", 2);
            for (String from : FROM_RATES) {
                Check.refused(HEAD + "tier 0;" + from, rate + ";", 2);
            }
        }
    }

    @Says(at = "Terms I", text = "tier: TIERS 0 .. 3 as they stand; B 1 .. 99999, above those told ahead; none comes behind one without B.")
    static void tiersHaveNumbersAndTops() {
        ValueDays x = Check.told(HEAD + "tier 10 to 1;tier 20 to 2;tier 30 to 99998;tier 40 to 99999;");
        for (int tier = 0; tier < 4; tier++) {
            Check.due("tier " + tier, x.rate(tier, 0), 10 * (tier + 1));
        }
        Check.due("no fifth", x.rate(4, 0), -1);
        Check.refused(HEAD + "tier 10 to ", "0;", 2);
        Check.refused(HEAD + "tier 10 to ", "100000;", 2);
        Check.refused(HEAD + "tier 10 to ", "4294967297;", 2);
        Check.refused(HEAD + "tier 10 to 7;tier 20 to ", "7;", 2);
        Check.refused(HEAD + "tier 10 to 7;tier 20 to ", "6;", 2);
        Check.taken(HEAD + "tier 10 to 7;tier 20 to 8;", 3);
        // Above all told ahead, not the last one's neighbour alone.
        Check.refused(HEAD + "tier 10 to 7;tier 20 to 9;tier 5 to ", "8;", 2);
        Check.refused(HEAD + "tier 10 to 99999;tier 20 to ", "99999;", 2);
        Check.taken(HEAD + "tier 10 to 99999;tier 20;", 3);
        Check.refused(HEAD + "tier 10;", "tier 20;", 3);
        Check.refused(HEAD + "tier 10;close;", "tier 20 to 5;", 3);
    }

    @Says(at = "Terms I", text = "debit: once.")
    static void debitIsToldOnce() {
        Check.taken(HEAD + "debit 1 over 2 limit 3;", 2);
        Check.refused(HEAD + "debit 1 over 2 limit 3;", "debit 1 over 2 limit 3;", 3);
        Check.refused(HEAD + "debit 1 over 2 limit 3;close;from 0 debit 5;", "debit", 3);
    }

    @Says(at = "Terms I", text = "from: CHANGES, 12 at most:")
    static void twelveChangesAtMost() {
        String twelve = HEAD + "tier 5;" + "from 0 limit 5;from 1 over 6;from 2 debit 7;from 3 tier 0 8;".repeat(3);
        Check.taken(twelve, 14);
        Check.due("changes", Check.told(twelve).count(4), 12);
        for (String change : new String[] {"limit 5;", "over 5;", "debit 5;", "tier 0 5;", "x"}) {
            Check.refused(twelve, "from 0 " + change, 3);
        }
    }

    @Says(at = "Terms I", text = "from DAY D on the RATE of TIER T (told ahead), of what is owed, above LIMIT, is R, LIMIT is L 0 .. 99999;")
    static void fromADayOn() {
        ValueDays x = Check.told(HEAD + "tier 1 to 9;tier 2;debit 3 over 4 limit 5;"
            + "from 1 tier 1 20;from 2 debit 30;from 3 over 40;from 19 limit 99999;");
        Check.due("tier ahead of it", x.rate(1, 0), 2);
        Check.due("tier", x.rate(1, 1), 20);
        Check.due("tier on the last day", x.rate(1, 19), 20);
        Check.due("another tier", x.rate(0, 1), 1);
        Check.due("debit ahead of it", x.owing(1, 0), 3);
        Check.due("debit", x.owing(2, 0), 30);
        Check.due("over ahead of it", x.owing(2, 1), 4);
        Check.due("over", x.owing(3, 1), 40);
        Check.due("limit ahead of it", x.owing(18, 2), 5);
        Check.due("limit", x.owing(19, 2), 99999);
        Check.taken(HEAD + "from 0 limit 0;", 2);
        Check.refused(HEAD + "from 0 limit ", "100000;", 2);
        Check.refused(HEAD + "debit 0 over 0 limit ", "100000;", 2);
        Check.refused(HEAD + "from 0 limit ", "4294967296;", 2);
        Check.refused(HEAD + "from ", "20 limit 0;", 2);
        Check.refused(HEAD + "from ", "4294967296 limit 0;", 2);
        // Told ahead: not one that comes behind, nor the next one's number.
        Check.refused(HEAD + "from 0 tier ", "0 5;tier 5;", 2);
        Check.refused(HEAD + "tier 5;from 0 tier ", "1 5;", 2);
        Check.refused(HEAD + "tier 5;from 0 tier ", "4294967296 5;", 2);
        Check.refused(HEAD + "tier 1 to 1;tier 1 to 2;tier 1 to 3;tier 1;from 0 tier ", "4 5;", 2);
        Check.taken(HEAD + "tier 1 to 1;tier 1 to 2;tier 1 to 3;tier 1;from 0 tier 3 5;", 6);
    }

    @Says(at = "Terms I", text = "the latest one told for a DAY, or ahead of it, counts (by DAY; of one DAY the last told).")
    static void theLatestChangeCounts() {
        ValueDays x = Check.told(HEAD + "from 5 limit 50;from 8 limit 80;from 3 limit 30;from 5 limit 51;from 5 over 9;");
        int[] limits = {0, 0, 0, 30, 30, 51, 51, 51, 80, 80};
        for (int day = 0; day < 10; day++) {
            Check.due("limit on day " + day, x.owing(day, 2), limits[day]);
        }
        Check.due("on the last day", x.owing(19, 2), 80);
        x.change(8, 6, 81);
        x.change(0, 6, 7);
        Check.due("of one day the last told", x.owing(8, 2), 81);
        Check.due("by day", x.owing(2, 2), 7);
        Check.due("by day", x.owing(3, 2), 30);
    }

    @Says(at = "Terms I", text = "(Without debit all three are 0 at first.)")
    static void withoutDebitAllThreeAre0() {
        ValueDays x = Check.told(HEAD + "from 4 debit 7;");
        for (int what = 0; what < 3; what++) {
            Check.due("owing " + what, x.owing(0, what), 0);
            Check.due("owing " + what, x.owing(3, what), 0);
        }
        Check.due("changed", x.owing(4, 0), 7);
        Check.due("not changed", x.owing(4, 1) + x.owing(4, 2), 0);
        // A debit behind a change holds at first: the change stays.
        x = Check.told(HEAD + "from 4 debit 7;debit 1 over 2 limit 3;");
        Check.due("told", x.owing(3, 0), 1);
        Check.due("the change", x.owing(4, 0), 7);
        x = Check.told(HEAD + "from 0 debit 7;debit 1 over 2 limit 3;");
        Check.due("the change of day 0", x.owing(0, 0), 7);
        Check.due("the others are told", 10 * x.owing(0, 1) + x.owing(0, 2), 23);
    }

    @Says(at = "Terms I", text = "pay, draw: ENTRIES, 30 at most: V: a DAY, A 1 .. 99999.")
    static void thirtyEntriesAtMost() {
        for (String word : new String[] {"pay", "draw"}) {
            Check.taken(HEAD + word + " 0 1;" + word + " 19 99999;", 3);
            Check.refused(HEAD + word + " ", "20 1;", 2);
            Check.refused(HEAD + word + " ", "4294967296 1;", 2);
            Check.refused(HEAD + word + " 0 ", "0;", 2);
            Check.refused(HEAD + word + " 0 ", "100000;", 2);
            Check.refused(HEAD + word + " 0 ", "4294967297;", 2);
            Check.taken(HEAD + (word + " 0 1;").repeat(30), 31);
            Check.refused(HEAD + (word + " 0 1;").repeat(30), "pay 0 1;", 3);
            Check.refused(HEAD + (word + " 0 1;").repeat(30), "draw 0 1;", 3);
        }
        // Interest and corrections are not among the thirty.
        Check.taken(HEAD + "tier 5000;pay 0 99999;close;pay 1 99999;rerun;" + "draw 0 1;".repeat(28), 34);
    }

    @Says(at = "Terms I", text = "close: N at most; rerun: 6 at most.")
    static void closesAndRerunsAtMost() {
        Check.taken("book days 2 periods 1 compound 1;close;", 2);
        Check.refused("book days 2 periods 1 compound 1;close;", "close;", 3);
        Check.taken("book days 2 periods 8 compound 1;" + "close;".repeat(8), 9);
        Check.refused("book days 2 periods 8 compound 1;" + "close;".repeat(8), "close;", 3);
        Check.taken(HEAD + "rerun;".repeat(6), 7);
        Check.refused(HEAD + "rerun;".repeat(6), "rerun;", 3);
        Check.refused(HEAD + "rerun;rerun;rerun;close;rerun;rerun;rerun;", "rerun;", 3);
    }

    @Says(at = "Terms I", text = "pay, draw, rerun: while a PERIOD is open alone.")
    static void noneOfThemWithoutAnOpenPeriod() {
        for (String line : new String[] {"pay 0 1;", "draw 0 1;", "rerun;"}) {
            Check.taken(HEAD + "close;" + line, 3);
            Check.refused(HEAD + "close;close;", line, 3);
        }
        // Others may still come.
        Check.taken(HEAD + "close;close;tier 5;debit 1 over 2 limit 3;from 0 tier 0 7;", 6);
    }

    @Says(at = "Terms I", text = "LINES count from where they stand: what is CLOSED, RERUN ahead of one does not know it yet.")
    static void linesCountFromWhereTheyStand() {
        ValueDays x = Check.told(HEAD + "tier 3600;pay 0 1000;close;pay 0 2000;rerun;pay 0 4000;");
        Check.due("closed ahead of 2000", x.entry(1, 1), 10);
        Check.due("rerun ahead of 4000", x.entry(3, 1), 20);
        Check.due("known now", x.wrong(0), 40);
        x = Check.told(HEAD + "pay 0 1000;close;tier 3600;");
        Check.due("closed ahead of the tier", x.booked(0), 0);
        Check.due("known now", x.fresh(0), 10);
        x = Check.told(HEAD + "draw 0 1000;close;debit 3600 over 3600 limit 0;");
        Check.due("closed ahead of the debit", x.booked(0), 0);
        Check.due("known now", x.wrong(0), -10);
        x = Check.told(HEAD + "tier 3600;pay 0 1000;close;from 0 tier 0 0;");
        Check.due("closed ahead of the change", x.booked(0), 10);
        Check.due("known now", x.wrong(0), -10);
    }

    // ---- tokens, faults

    @Says(at = "Terms I", text = "TOKENS, blanks (32, 10) aside, the longest: words (a .. z), numbers (digits), the sign ; .")
    static void tokensAreTheLongest() {
        Check.taken("book days10periods2compound1;pay0 1;draw19 99999;close;", 4);
        Check.taken("\n book\n\ndays  10\nperiods 2 compound 1\n;\nclose ; \n", 2);
        Check.taken("book days 0000000000000000000010 periods 02 compound 01;pay 00 00001;", 2);
        Check.refused("", "bookdays 10 periods 2 compound 1;", 1);
        Check.refused("", "bo ok days 10 periods 2 compound 1;", 1);
        Check.refused("book days ", "1 0 periods 2 compound 1;", 2);
        Check.refused(HEAD + "pay 0 1 ", "2;", 1);
        Check.refused(HEAD, "closea;", 1);
        Check.refused(HEAD, "closez;", 1);
        // Another first letter, another last one.
        for (String word : new String[] {"xier 5;", "tiex 5;", "ray 0 1;", "pax 0 1;", "craw 0 1;", "drab 0 1;", "blose;", "closd;"}) {
            Check.refused(HEAD, word, 1);
        }
        Check.refused("", "cook days 10 periods 2 compound 1;", 1);
        Check.refused(HEAD + "close", "A;", 1);
        // The signs next to a .. z, 0 .. 9, the other blanks, 0, 127, 128, 255 are none.
        for (int sign : new int[] {'`', '{', '@', 'A', 'Z', '[', '/', ':', '-', '+', '.', '_', 9, 11, 13, 31, 33, 0, 127, 128, 160, 255}) {
            Check.refused(HEAD, (char) sign + "close;", 1);
            Check.refused(HEAD + "close", (char) sign + ";", 1);
            Check.refused(HEAD + "pay 0 1", (char) sign + ";", 1);
        }
    }

    @Says(at = "Terms I", text = "FAULTS, the first by its place (a TOKEN's first byte; the end's), of one place the least:")
    static void theFirstFaultByItsPlace() {
        Check.refused(HEAD + "pay ", "20 0;", 2);
        Check.refused(HEAD + "pay ", "20 $;", 2);
        Check.refused(HEAD + "pay 0 ", "$;pay 20 0;", 1);
        Check.refused(HEAD + "tier 1;pay 0 1;", "tier 2;pay 20 1;", 3);
        Check.refused(HEAD + "pay 0 ", "100000;tier 1;tier 2;", 2);
        // A token's first byte, however long it is; the end's place is behind its blanks.
        Check.refused(HEAD + "  \n ", "zzzzzzzz;", 1);
        Check.refused(HEAD + "pay 0  ", "0000100000;", 2);
        Check.refused("book days 10", "", 1);
        Check.refused("book days 10 \n ", "", 1);
        Check.refused(HEAD + "close", "", 1);
        Check.refused(HEAD + "close \n", "", 1);
        // Too many of a line, and nothing behind its word: the word's place comes first.
        Check.refused(HEAD + "tier 1;", "tier", 3);
        Check.refused(HEAD + "close;close;", "pay", 3);
        // Of one place: a number where none can stand, be it in bounds or not, is 1.
        Check.refused(HEAD, "999999999999;", 1);
        Check.refused(HEAD + "close ", "999999999999;", 1);
        Check.refused(HEAD + "pay 0 1 ", "999999999999;", 1);
    }

    @Says(at = "Terms I", text = "1 a TOKEN that is none, or can't stand there (book behind the first LINE, another word ahead of it;"
        + " behind from D another word).")
    static void fault1IsATokenThatCantStandThere() {
        Check.refused(HEAD + "pay 0 ", "#1;", 1);
        Check.refused(HEAD, "book days 10 periods 2 compound 1;", 1);
        Check.refused(HEAD + "close;close;", "book", 1);
        for (String word : new String[] {"tier 1;", "debit 1 over 1 limit 1;", "from 0 limit 1;", "pay 0 1;", "draw 0 1;", "close;",
            "rerun;", "days;", "x;", "7;"}) {
            Check.refused("", word + HEAD, 1);
        }
        for (String word : new String[] {"book", "days", "to", "limits", "pay", "close", "from", "5", ";", ""}) {
            Check.refused(HEAD + "tier 1;from 0 ", word, 1);
        }
        for (String word : new String[] {"days", "periods", "compound", "to", "over", "limit", "reverse", "change", "x"}) {
            Check.refused(HEAD, word, 1);
        }
        Check.refused(HEAD + "tier ", "to 5;", 1);
        Check.refused(HEAD + "tier 5 ", "over 5;", 1);
        Check.refused(HEAD + "debit 5 ", "limit 5 over 5;", 1);
        Check.refused(HEAD + "pay ", "close;", 1);
    }

    @Says(at = "Terms I", text = "2 a number out of its bounds, not as said.")
    static void fault2IsANumberNotAsSaid() {
        Check.refused("book days ", "1 periods 2 compound 1;", 2);
        Check.refused(HEAD + "tier ", "5001;", 2);
        Check.refused(HEAD + "tier 5 to 9;tier 5 to ", "9;", 2);
        Check.refused(HEAD + "from 0 tier ", "0 1;", 2);
        Check.refused(HEAD + "pay ", "20 1;", 2);
        // Numbers that would be in bounds, were they to wrap around.
        for (String wrapped : new String[] {"4294967301", "18446744073709551621", "340282366920938463463374607431768211461"}) {
            Check.refused(HEAD + "pay ", wrapped + " 1;", 2);
            Check.refused(HEAD + "draw 0 ", wrapped + ";", 2);
            Check.refused(HEAD + "tier ", wrapped + ";", 2);
            Check.refused(HEAD + "from 0 limit ", wrapped + ";", 2);
        }
        Check.refused(HEAD + "pay 0 ", "9".repeat(500) + ";", 2);
        Check.refused(HEAD + "pay 0 ", "1" + "0".repeat(500) + ";", 2);
        Check.taken(HEAD + "pay 0 " + "0".repeat(500) + "1;", 2);
    }

    @Says(at = "Terms I", text = "3 at its word: a fifth tier, one behind one without B, a second debit, a thirteenth from,"
        + " a 31st pay, draw (both together), a close, rerun too many, pay, draw, rerun without an open PERIOD.")
    static void fault3IsAtTheWord() {
        Check.refused(HEAD + "tier 1 to 1;tier 1 to 2;tier 1 to 3;tier 1 to 4;", "tier 1 to 5;", 3);
        Check.refused(HEAD + "tier 1 to 1;tier 1 to 2;tier 1 to 3;tier 1;", "tier 1;", 3);
        Check.refused(HEAD + "tier 1;", "tier 1 to 5;", 3);
        Check.refused(HEAD + "debit 1 over 1 limit 1;", "debit 5001 over 1 limit 1;", 3);
        Check.refused(HEAD + "from 0 limit 1;".repeat(12), "from 20 limit 1;", 3);
        Check.refused(HEAD + "pay 0 1;draw 0 1;".repeat(15), "pay 20 1;", 3);
        Check.refused(HEAD + "pay 0 1;draw 0 1;".repeat(15), "draw 20 1;", 3);
        Check.refused(HEAD + "pay 0 1;".repeat(29) + "draw 0 1;", "pay 0 1;", 3);
        Check.refused(HEAD + "draw 0 1;".repeat(29) + "pay 0 1;", "draw 0 1;", 3);
        Check.refused(HEAD + "close;close;", "close;", 3);
        Check.refused(HEAD + "rerun;".repeat(6), "rerun;", 3);
        Check.refused(HEAD + "close;close;", "pay 0 1;", 3);
        Check.refused(HEAD + "close;close;", "draw 0 1;", 3);
        Check.refused(HEAD + "close;close;", "rerun;", 3);
    }
}
