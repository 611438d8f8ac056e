import java.util.Arrays;

/** One account whose interest is reckoned by value days; the document's promises say what each call does. */
public final class ValueDays {
    public static final int NONE = -1;
    public static final long NO_SUCH = Long.MIN_VALUE;

    private static final int NOT_THERE = -2;
    private static final int FAULTY = -4;
    private static final int BARRED = -5;
    private static final int NOTHING_KEPT = -6;
    private static final int MOST_AMOUNT = 99999;
    private static final int MOST_RATE = 5000;
    private static final int MOST_CYCLE = 4;
    private static final int MOST_PAYMENTS = 8;
    private static final int IMAGES = 3;
    private static final int BYTES_A_FEED = 20;

    private final Tape tape;
    private final Reader reader;
    private final Script script;
    private final Script[] images;
    private final Ledger ledger;
    private final Course course;
    private final WhatIf whatIf;
    private final PaidOff paidOff;

    public ValueDays() {
        tape = new Tape();
        reader = new Reader(tape);
        script = new Script();
        images = new Script[IMAGES];
        for (int k = 0; k < images.length; k++) {
            images[k] = new Script();
        }
        ledger = new Ledger();
        course = new Course(ledger);
        whatIf = new WhatIf(ledger);
        paidOff = new PaidOff(ledger.entries);
    }

    // ---- the tape and the book

    public int feed(int a, int b, int c, int d, int e) {
        if (!tape.hasRoom(BYTES_A_FEED)) {
            return NONE;
        }
        tape.addNumber(a);
        tape.addNumber(b);
        tape.addNumber(c);
        tape.addNumber(d);
        tape.addNumber(e);
        return tape.length();
    }

    public int end(int n) {
        if (n < 0 || n > tape.length()) {
            return NONE;
        }
        tape.cut(n);
        return n;
    }

    public int book() {
        reader.readText();
        tape.cut(0);
        if (reader.faultKind() != 0) {
            return FAULTY;
        }
        script.copyFrom(reader.draft());
        ledger.replay(script, script.cycle());
        return script.lines();
    }

    public int fault(int what) {
        switch (what) {
            case 0: return reader.faultKind();
            case 1: return reader.faultPlace();
            default: return NONE;
        }
    }

    public int count(int what) {
        switch (what) {
            case 0: return ledger.span();
            case 1: return ledger.periods();
            case 2: return ledger.cycle();
            case 3: return ledger.terms.tiers();
            case 4: return ledger.terms.changes();
            case 5: return ledger.entries.size();
            case 6: return ledger.closed();
            case 7: return script.acts();
            case 8: return script.lines();
            case 9: return tape.length();
            default: return NONE;
        }
    }

    // ---- entries, rates, the balance and its parts

    public long entry(int entry, int what) {
        Entries entries = ledger.entries;
        if (!entries.has(entry)) {
            return NO_SUCH;
        }
        switch (what) {
            case 0: return entries.sortOf(entry);
            case 1: return entries.amountOf(entry);
            case 2: return entries.valueOf(entry);
            case 3: return entries.pageOf(entry);
            case 4: return entries.periodOf(entry);
            case 5: return entries.turnedOf(entry);
            default: return NO_SUCH;
        }
    }

    public int sorted(int k) {
        if (k < 0 || noBook()) {
            return NOT_THERE;
        }
        return ledger.entries.inOrder(k);
    }

    public int rate(int tier, int day) {
        if (!ledger.terms.isTier(tier) || !ledger.isDay(day)) {
            return NONE;
        }
        return ledger.terms.rule(tier, day);
    }

    public int owing(int day, int what) {
        if (!ledger.isDay(day)) {
            return NONE;
        }
        switch (what) {
            case 0: return ledger.terms.rule(Terms.DEBIT, day);
            case 1: return ledger.terms.rule(Terms.OVER, day);
            case 2: return ledger.terms.rule(Terms.LIMIT, day);
            default: return NONE;
        }
    }

    public long balance(int day) {
        return ledger.isDay(day) ? ledger.standing(day) : NO_SUCH;
    }

    public long part(int day, int tier) {
        if (!ledger.isDay(day) || tier < 0) {
            return NO_SUCH;
        }
        Terms terms = ledger.terms;
        long standing = ledger.standing(day);
        if (terms.isTier(tier)) {
            return terms.partOf(tier, standing);
        }
        switch (tier - terms.tiers()) {
            case 0: return terms.partAboveAll(standing);
            case 1: return terms.owedWithin(day, standing);
            case 2: return terms.owedAbove(day, standing);
            default: return NO_SUCH;
        }
    }

    public long product(int day) {
        if (!ledger.isDay(day)) {
            return NO_SUCH;
        }
        long standing = ledger.standing(day);
        return ledger.terms.credit(day, standing) - ledger.terms.debt(day, standing);
    }

    // ---- periods and pages

    public long products(int period, int what) {
        if (!ledger.isPeriod(period)) {
            return NO_SUCH;
        }
        switch (what) {
            case 0: return course.creditOf(period);
            case 1: return course.debtOf(period);
            default: return NO_SUCH;
        }
    }

    public long fresh(int period) {
        return ledger.isPeriod(period) ? ledger.interestNow(period) : NO_SUCH;
    }

    public long booked(int period) {
        return ledger.isPeriod(period) ? ledger.entries.interestBooked(period) : NO_SUCH;
    }

    public long wrong(int period) {
        if (!ledger.isPeriod(period)) {
            return NO_SUCH;
        }
        return ledger.isClosed(period) ? ledger.interestNow(period) - ledger.entries.interestBooked(period) : 0;
    }

    public int compounds(int period) {
        return ledger.isPeriod(period) ? ledger.compoundingDay(period) : NONE;
    }

    public long page(int period, int what) {
        if (!ledger.isPeriod(period)) {
            return NO_SUCH;
        }
        Entries entries = ledger.entries;
        switch (what) {
            case 0: return entries.sumAhead(period);
            case 1: return entries.paidOn(period);
            case 2: return entries.drawnOn(period);
            case 3: return entries.sumOn(period, Entries.INTEREST);
            case 4: return entries.sumOn(period, Entries.CORRECTION);
            case 5: return entries.sumOn(period, Entries.TURNED);
            case 6: return entries.sumAhead(period + 1);
            case 7: return entries.sizeOn(period);
            default: return NO_SUCH;
        }
    }

    public int line(int period, int i) {
        if (!ledger.isPeriod(period) || i < 0) {
            return NOT_THERE;
        }
        return ledger.entries.onPage(period, i);
    }

    public long mean(int period, int what) {
        if (!ledger.isPeriod(period)) {
            return NO_SUCH;
        }
        switch (what) {
            case 0: return course.meanAbove(period);
            case 1: return course.meanBelow(period);
            default: return NO_SUCH;
        }
    }

    public long earned(int period, int tier) {
        if (!ledger.isPeriod(period) || !ledger.terms.isTier(tier)) {
            return NO_SUCH;
        }
        return course.creditOfTier(period, tier);
    }

    public long backdated(int period, int what) {
        if (!ledger.isPeriod(period)) {
            return NO_SUCH;
        }
        Entries entries = ledger.entries;
        int first = ledger.firstDay(period);
        int behind = first + ledger.span();
        switch (what) {
            case 0: return entries.sizeValued(period, 0, first);
            case 1: return entries.sumValued(period, 0, first);
            case 2: return entries.sizeValued(period, behind, Entries.BEHIND_ALL);
            case 3: return entries.sumValued(period, behind, Entries.BEHIND_ALL);
            default: return NO_SUCH;
        }
    }

    public int bears(int period) {
        if (!ledger.isPeriod(period)) {
            return NOT_THERE;
        }
        return ledger.entries.valueDaysAhead(ledger.firstDay(period) + ledger.span());
    }

    // ---- the balance over all days

    public int steps() {
        return noBook() ? NOT_THERE : course.stepsTill(ledger.days());
    }

    public int step(int i) {
        return i < 0 || noBook() ? NOT_THERE : course.stepDay(i);
    }

    public long lowest() {
        return noBook() ? NO_SUCH : course.leastStanding();
    }

    public int beyond() {
        return noBook() ? NOT_THERE : course.daysBeyond();
    }

    public int firstBeyond() {
        return noBook() ? NOT_THERE : course.firstDayBeyond();
    }

    public int most(int day) {
        return ledger.isDay(day) ? course.mostDrawn(day) : NOT_THERE;
    }

    public int least(int day) {
        return ledger.isDay(day) ? course.leastPaid(day) : NOT_THERE;
    }

    public int reaches(int amount) {
        if (noBook() || !isBetween(amount, -MOST_AMOUNT, MOST_AMOUNT)) {
            return NOT_THERE;
        }
        return course.firstDayAt(amount);
    }

    public int limitFor() {
        if (noBook()) {
            return NOT_THERE;
        }
        long owed = Math.max(0, -course.leastStanding());
        return owed > MOST_AMOUNT ? NONE : (int) owed;
    }

    // ---- what would be

    public long all() {
        return noBook() ? NO_SUCH : ledger.interestOfAll();
    }

    public long brought(int entry) {
        return ledger.entries.has(entry) ? whatIf.gainBy(entry) : NO_SUCH;
    }

    public long moved(int entry, int day) {
        if (!ledger.entries.has(entry) || !ledger.isDay(day)) {
            return NO_SUCH;
        }
        return whatIf.gainByMoving(entry, day);
    }

    public int bestDay(int entry) {
        return ledger.entries.has(entry) ? whatIf.dayOfMost(entry) : NOT_THERE;
    }

    public long late(int day, int amount) {
        if (!ledger.isDay(day) || !isBetween(amount, -MOST_AMOUNT, MOST_AMOUNT)) {
            return NO_SUCH;
        }
        return whatIf.unlikeWith(day, amount);
    }

    public int touched(int day, int amount) {
        if (!ledger.isDay(day) || !isBetween(amount, -MOST_AMOUNT, MOST_AMOUNT)) {
            return NOT_THERE;
        }
        return whatIf.firstTouched(day, amount);
    }

    public long tilted(int tier, int more) {
        if (!ledger.terms.isTier(tier) || !isBetween(more, -MOST_RATE, MOST_RATE)) {
            return NO_SUCH;
        }
        return whatIf.gainByTilt(tier, more);
    }

    public long limited(int limit) {
        if (noBook() || !isBetween(limit, 0, MOST_AMOUNT)) {
            return NO_SUCH;
        }
        return whatIf.gainByLimit(limit);
    }

    public int needs(int day, int n) {
        if (!ledger.isDay(day) || !isBetween(n, 1, MOST_AMOUNT)) {
            return NOT_THERE;
        }
        return whatIf.leastFor(day, n);
    }

    public long caused(int entry, int period) {
        if (!ledger.entries.has(entry) || !ledger.isPeriod(period)) {
            return NO_SUCH;
        }
        return whatIf.gainIn(entry, period);
    }

    public int blame(int period) {
        return ledger.isPeriod(period) ? whatIf.mostGuilty(period) : NOT_THERE;
    }

    public int tiltFor(int tier, int n) {
        if (!ledger.terms.isTier(tier) || !isBetween(n, 1, MOST_AMOUNT)) {
            return NOT_THERE;
        }
        return whatIf.leastTilt(tier, n);
    }

    public int rights() {
        return ledger.hasOpen() ? whatIf.correctionsNow() : NOT_THERE;
    }

    public long righted() {
        return ledger.hasOpen() ? whatIf.correctedNow() : NO_SUCH;
    }

    public long settled() {
        return noBook() ? NO_SUCH : whatIf.settlement();
    }

    public long compounded(int k) {
        if (noBook() || !isBetween(k, 1, MOST_CYCLE)) {
            return NO_SUCH;
        }
        long now = whatIf.settlement();
        // No second ledger is kept for this: the one there is goes through all rows by k, and then again as told.
        ledger.replay(script, k);
        long then = whatIf.settlement();
        ledger.replay(script, script.cycle());
        return then - now;
    }

    public long ideal(int period) {
        return ledger.isPeriod(period) ? whatIf.idealInterest(period) : NO_SUCH;
    }

    public long planned(int day, int n, int amount) {
        if (!canPlan(day, n) || !isBetween(amount, 0, MOST_AMOUNT)) {
            return NO_SUCH;
        }
        return whatIf.settlementWith(day, n, amount);
    }

    public int plan(int day, int n) {
        return canPlan(day, n) ? whatIf.leastPlan(day, n) : NOT_THERE;
    }

    // ---- what is paid off

    public long left(int entry) {
        if (!ledger.entries.has(entry)) {
            return NO_SUCH;
        }
        paidOff.reckon();
        return paidOff.restOf(entry);
    }

    public int gone(int entry) {
        if (!ledger.entries.has(entry)) {
            return NOT_THERE;
        }
        paidOff.reckon();
        return paidOff.lastDayOf(entry);
    }

    public int oldest() {
        if (noBook()) {
            return NOT_THERE;
        }
        paidOff.reckon();
        return paidOff.firstOwed();
    }

    // ---- acts

    public int pay(int day, int amount) {
        return bookMoney(day, amount, 1);
    }

    public int draw(int day, int amount) {
        return bookMoney(day, amount, -1);
    }

    public int reverse(int entry) {
        Entries entries = ledger.entries;
        if (!entries.has(entry)) {
            return NOT_THERE;
        }
        if (entries.sortOf(entry) != Entries.MONEY || entries.isTurnedBack(entry)) {
            return BARRED;
        }
        if (!ledger.hasOpen() || script.isFull()) {
            return BARRED;
        }
        act(Script.REVERSE, entries.moneyAhead(entry), 0, 0);
        return entries.size() - 1;
    }

    public int change(int day, int which, int v) {
        int highest = which == Terms.LIMIT ? MOST_AMOUNT : MOST_RATE;
        boolean known = ledger.terms.isTier(which) || isBetween(which, Terms.DEBIT, Terms.LIMIT);
        if (!ledger.isDay(day) || !known || !isBetween(v, 0, highest)) {
            return NOT_THERE;
        }
        if (script.isFull()) {
            return BARRED;
        }
        act(Script.CHANGE, day, which, v);
        return ledger.terms.changes();
    }

    public int close() {
        if (noBook()) {
            return NOT_THERE;
        }
        if (!ledger.hasOpen() || script.isFull()) {
            return BARRED;
        }
        act(Script.CLOSE, 0, 0, 0);
        return ledger.closed() - 1;
    }

    public int rerun() {
        if (noBook()) {
            return NOT_THERE;
        }
        if (!ledger.hasOpen() || script.isFull()) {
            return BARRED;
        }
        int before = ledger.entries.size();
        act(Script.RERUN, 0, 0, 0);
        return ledger.entries.size() - before;
    }

    // ---- images, acts taken back

    public int image(int k) {
        Script kept = keptAs(k);
        if (kept == null || noBook()) {
            return NOT_THERE;
        }
        kept.copyFrom(script);
        return 0;
    }

    public int back(int k) {
        Script kept = keptAs(k);
        if (kept == null) {
            return NOT_THERE;
        }
        if (kept.lines() == 0) {
            return NOTHING_KEPT;
        }
        script.copyFrom(kept);
        ledger.replay(script, script.cycle());
        return 0;
    }

    public int undo() {
        if (noBook()) {
            return NOT_THERE;
        }
        if (script.acts() == 0) {
            return BARRED;
        }
        script.keepActs(script.acts() - 1);
        ledger.replay(script, script.cycle());
        return script.acts();
    }

    public int anew() {
        if (noBook()) {
            return NOT_THERE;
        }
        int before = script.acts();
        script.keepActs(0);
        ledger.replay(script, script.cycle());
        return before;
    }

    // ---- helpers of the face

    private boolean noBook() {
        return script.lines() == 0;
    }

    private static boolean isBetween(int n, int lowest, int highest) {
        return n >= lowest && n <= highest;
    }

    private boolean canPlan(int day, int n) {
        if (!ledger.hasOpen() || !ledger.isDay(day) || !isBetween(n, 1, MOST_PAYMENTS)) {
            return false;
        }
        return ledger.isDay(day + (n - 1) * ledger.span());
    }

    private int bookMoney(int day, int amount, int sign) {
        if (!ledger.isDay(day) || !isBetween(amount, 1, MOST_AMOUNT)) {
            return NOT_THERE;
        }
        if (!ledger.hasOpen() || script.isFull()) {
            return BARRED;
        }
        act(Script.MONEY, day, sign * amount, 0);
        return ledger.entries.size() - 1;
    }

    private void act(int kind, int a, int b, int c) {
        script.addAct(kind, a, b, c);
        ledger.perform(script, script.size() - 1);
    }

    private Script keptAs(int k) {
        return k >= 0 && k < images.length ? images[k] : null;
    }

    /** The bytes that have come and are not yet read. */
    private static final class Tape {
        static final int ROOM = 900;

        private final byte[] bytes = new byte[ROOM];
        private int length;

        int length() {
            return length;
        }

        boolean hasRoom(int more) {
            return length + more <= ROOM;
        }

        void addNumber(int number) {
            for (int shift = 24; shift >= 0; shift -= 8) {
                if (length < ROOM) {
                    bytes[length] = (byte) (number >> shift);
                    length++;
                }
            }
        }

        void cut(int n) {
            if (n >= 0 && n <= length) {
                length = n;
            }
        }

        /** Without sign; NONE at the end. */
        int byteAt(int place) {
            return place >= 0 && place < length ? bytes[place] & 255 : NONE;
        }
    }

    /** The tape's tokens, one at a time. */
    private static final class Tokens {
        static final int AT_END = 0;
        static final int WORD = 1;
        static final int NUMBER = 2;
        static final int SIGN = 3;
        static final int STRANGE = 4;
        // Above every bound of the document: what is longer stays above, and never wraps around.
        private static final int LARGE = 100_000_000;

        private final Tape tape;
        private int kind;
        private int start;
        private int stop;
        private int number;

        Tokens(Tape tape) {
            this.tape = tape;
        }

        int kind() {
            return kind;
        }

        int start() {
            return start;
        }

        int number() {
            return number;
        }

        void begin() {
            stop = 0;
            advance();
        }

        void advance() {
            start = stop;
            while (start < tape.length() && isBlank(tape.byteAt(start))) {
                start++;
            }
            int sign = tape.byteAt(start);
            stop = start + 1;
            if (sign == NONE) {
                kind = AT_END;
                stop = start;
            } else if (isLetter(sign)) {
                kind = WORD;
                while (stop < tape.length() && isLetter(tape.byteAt(stop))) {
                    stop++;
                }
            } else if (isDigit(sign)) {
                kind = NUMBER;
                number = sign - '0';
                while (stop < tape.length() && isDigit(tape.byteAt(stop))) {
                    number = number < LARGE ? number * 10 + tape.byteAt(stop) - '0' : number;
                    stop++;
                }
            } else {
                kind = sign == ';' ? SIGN : STRANGE;
            }
        }

        boolean isWord(String word) {
            if (kind != WORD || stop - start != word.length()) {
                return false;
            }
            for (int i = 0; i < word.length(); i++) {
                if (tape.byteAt(start + i) != word.charAt(i)) {
                    return false;
                }
            }
            return true;
        }

        private static boolean isBlank(int sign) {
            return sign == 32 || sign == 10;
        }

        private static boolean isLetter(int sign) {
            return sign >= 'a' && sign <= 'z';
        }

        private static boolean isDigit(int sign) {
            return sign >= '0' && sign <= '9';
        }
    }

    /** The rows that make an account: the book's lines, and behind them the acts. */
    private static final class Script {
        static final int BOOK = 0;
        static final int TIER = 1;
        static final int DEBIT = 2;
        static final int CHANGE = 3;
        static final int MONEY = 4;
        static final int CLOSE = 5;
        static final int RERUN = 6;
        static final int REVERSE = 7;
        static final int MOST_ACTS = 20;
        // book, 4 tier, debit, 12 from, 30 pay and draw, 8 close, 6 rerun.
        private static final int MOST_LINES = 62;
        private static final int WIDTH = 4;

        private final int[] cells = new int[(MOST_LINES + MOST_ACTS) * WIDTH];
        private int lines;
        private int acts;

        int lines() {
            return lines;
        }

        int acts() {
            return acts;
        }

        int size() {
            return lines + acts;
        }

        boolean isFull() {
            return acts >= MOST_ACTS;
        }

        int told(int row, int column) {
            if (row < 0 || row >= size() || column < 0 || column >= WIDTH) {
                return 0;
            }
            return cells[row * WIDTH + column];
        }

        int cycle() {
            return told(0, 3);
        }

        void clear() {
            lines = 0;
            acts = 0;
        }

        void keepActs(int n) {
            if (n >= 0 && n < acts) {
                acts = n;
            }
        }

        void addLine(int kind, int a, int b, int c) {
            if (acts == 0 && lines < MOST_LINES) {
                put(lines, kind, a, b, c);
                lines++;
            }
        }

        void addAct(int kind, int a, int b, int c) {
            if (acts < MOST_ACTS) {
                put(lines + acts, kind, a, b, c);
                acts++;
            }
        }

        private void put(int row, int kind, int a, int b, int c) {
            int cell = row * WIDTH;
            if (cell >= 0 && cell + WIDTH <= cells.length) {
                cells[cell] = kind;
                cells[cell + 1] = a;
                cells[cell + 2] = b;
                cells[cell + 3] = c;
            }
        }

        void copyFrom(Script other) {
            System.arraycopy(other.cells, 0, cells, 0, cells.length);
            lines = other.lines;
            acts = other.acts;
        }
    }

    /** Reads the tape's text into a draft, up to its first fault. */
    private static final class Reader {
        private static final int NO_PLACE_FOR_IT = 1;
        private static final int OUT_OF_BOUNDS = 2;
        private static final int TOO_MANY = 3;
        private static final int MOST_FROM = 12;
        private static final int MOST_MONEY = 30;
        private static final int MOST_RERUNS = 6;

        private final Tape tape;
        private final Tokens tokens;
        private final Script draft = new Script();
        private int fault;
        private int place = NONE;
        private int days;
        private int periods;
        private int tiers;
        private int lastTop;
        private boolean topless;
        private boolean debitTold;
        private int changes;
        private int moneys;
        private int closes;
        private int reruns;

        Reader(Tape tape) {
            this.tape = tape;
            tokens = new Tokens(tape);
        }

        Script draft() {
            return draft;
        }

        int faultKind() {
            return fault;
        }

        int faultPlace() {
            return place;
        }

        void readText() {
            forget();
            tokens.begin();
            for (int turn = 0; turn < tape.length() && goesOn(); turn++) {
                readLine();
            }
        }

        private boolean goesOn() {
            return fault == 0 && tokens.kind() != Tokens.AT_END;
        }

        private void forget() {
            draft.clear();
            fault = 0;
            place = NONE;
            days = 0;
            periods = 0;
            tiers = 0;
            lastTop = 0;
            topless = false;
            debitTold = false;
            changes = 0;
            moneys = 0;
            closes = 0;
            reruns = 0;
        }

        private void readLine() {
            if (draft.lines() == 0) {
                readBook();
            } else if (tokens.isWord("tier")) {
                readTier();
            } else if (tokens.isWord("debit")) {
                readDebit();
            } else if (tokens.isWord("from")) {
                readFrom();
            } else if (tokens.isWord("pay")) {
                readMoney(1);
            } else if (tokens.isWord("draw")) {
                readMoney(-1);
            } else if (tokens.isWord("close")) {
                readClose();
            } else if (tokens.isWord("rerun")) {
                readRerun();
            } else {
                refuse(NO_PLACE_FOR_IT);
            }
        }

        private void readBook() {
            takeWord("book");
            takeWord("days");
            int span = takeNumber(2, Ledger.MOST_SPAN);
            takeWord("periods");
            int n = takeNumber(1, Ledger.MOST_PERIODS);
            takeWord("compound");
            int cycle = takeNumber(1, MOST_CYCLE);
            days = span * n;
            periods = n;
            finish(Script.BOOK, span, n, cycle);
        }

        private void readTier() {
            if (tiers >= Terms.MOST_TIERS || topless) {
                refuse(TOO_MANY);
                return;
            }
            takeWord("tier");
            int rate = takeNumber(0, MOST_RATE);
            int top = NONE;
            if (fault == 0 && tokens.isWord("to")) {
                takeWord("to");
                top = takeNumber(lastTop + 1, MOST_AMOUNT);
                lastTop = top;
            }
            topless = top == NONE;
            tiers++;
            finish(Script.TIER, rate, top, 0);
        }

        private void readDebit() {
            if (debitTold) {
                refuse(TOO_MANY);
                return;
            }
            debitTold = true;
            takeWord("debit");
            int rate = takeNumber(0, MOST_RATE);
            takeWord("over");
            int over = takeNumber(0, MOST_RATE);
            takeWord("limit");
            int limit = takeNumber(0, MOST_AMOUNT);
            finish(Script.DEBIT, rate, over, limit);
        }

        private void readFrom() {
            if (changes >= MOST_FROM) {
                refuse(TOO_MANY);
                return;
            }
            changes++;
            takeWord("from");
            int day = takeNumber(0, days - 1);
            int which = takeWhich();
            int value = takeNumber(0, which == Terms.LIMIT ? MOST_AMOUNT : MOST_RATE);
            finish(Script.CHANGE, day, which, value);
        }

        /** What a from line changes: its word, and the tier's number behind tier. */
        private int takeWhich() {
            if (fault == 0 && tokens.isWord("tier")) {
                takeWord("tier");
                return takeNumber(0, tiers - 1);
            }
            if (fault == 0 && tokens.isWord("debit")) {
                takeWord("debit");
                return Terms.DEBIT;
            }
            if (fault == 0 && tokens.isWord("over")) {
                takeWord("over");
                return Terms.OVER;
            }
            takeWord("limit");
            return Terms.LIMIT;
        }

        private void readMoney(int sign) {
            if (moneys >= MOST_MONEY || closes >= periods) {
                refuse(TOO_MANY);
                return;
            }
            moneys++;
            takeWord(sign > 0 ? "pay" : "draw");
            int day = takeNumber(0, days - 1);
            int amount = takeNumber(1, MOST_AMOUNT);
            finish(Script.MONEY, day, sign * amount, 0);
        }

        private void readClose() {
            if (closes >= periods) {
                refuse(TOO_MANY);
                return;
            }
            closes++;
            takeWord("close");
            finish(Script.CLOSE, 0, 0, 0);
        }

        private void readRerun() {
            if (reruns >= MOST_RERUNS || closes >= periods) {
                refuse(TOO_MANY);
                return;
            }
            reruns++;
            takeWord("rerun");
            finish(Script.RERUN, 0, 0, 0);
        }

        private void takeWord(String word) {
            if (fault != 0) {
                return;
            }
            if (tokens.isWord(word)) {
                tokens.advance();
            } else {
                refuse(NO_PLACE_FOR_IT);
            }
        }

        private int takeNumber(int lowest, int highest) {
            if (fault != 0) {
                return 0;
            }
            int number = tokens.number();
            if (tokens.kind() != Tokens.NUMBER) {
                refuse(NO_PLACE_FOR_IT);
                return 0;
            }
            if (number < lowest || number > highest) {
                refuse(OUT_OF_BOUNDS);
                return 0;
            }
            tokens.advance();
            return number;
        }

        private void finish(int kind, int a, int b, int c) {
            if (fault != 0) {
                return;
            }
            if (tokens.kind() == Tokens.SIGN) {
                draft.addLine(kind, a, b, c);
                tokens.advance();
            } else {
                refuse(NO_PLACE_FOR_IT);
            }
        }

        private void refuse(int kind) {
            fault = kind;
            place = tokens.start();
        }
    }

    /** Tiers, what holds for what is owed, and the changes of both by days. */
    private static final class Terms {
        static final int MOST_TIERS = 4;
        // The rules by their numbers: 0 .. 3 the rates of tiers, and these.
        static final int DEBIT = 4;
        static final int OVER = 5;
        static final int LIMIT = 6;
        private static final int RULES = 7;
        // 12 of the text, 20 acts.
        private static final int MOST_CHANGES = 32;
        private static final int AT_FIRST = -1;

        private final int[][] rules = new int[RULES][Ledger.MOST_DAYS];
        private final int[] tops = new int[MOST_TIERS];
        private final int[] changeDays = new int[MOST_CHANGES];
        private final int[] changeRules = new int[MOST_CHANGES];
        private int tiers;
        private int changes;

        int tiers() {
            return tiers;
        }

        int changes() {
            return changes;
        }

        boolean isTier(int tier) {
            return tier >= 0 && tier < tiers;
        }

        int rule(int which, int day) {
            if (which < 0 || which >= RULES || day < 0 || day >= Ledger.MOST_DAYS) {
                return 0;
            }
            return rules[which][day];
        }

        void clear() {
            tiers = 0;
            changes = 0;
            for (int which = 0; which < RULES; which++) {
                Arrays.fill(rules[which], 0);
            }
        }

        void addTier(int rate, int top) {
            if (tiers < MOST_TIERS) {
                tops[tiers] = top;
                spread(tiers, AT_FIRST, rate);
                tiers++;
            }
        }

        void tellDebit(int rate, int over, int limit) {
            spread(DEBIT, AT_FIRST, rate);
            spread(OVER, AT_FIRST, over);
            spread(LIMIT, AT_FIRST, limit);
        }

        void addChange(int day, int which, int value) {
            if (changes < MOST_CHANGES) {
                spread(which, day, value);
                changeDays[changes] = day;
                changeRules[changes] = which;
                changes++;
            }
        }

        /** A value holds from its day on, up to the next later day for which a change has been told already. */
        private void spread(int which, int from, int value) {
            int until = Ledger.MOST_DAYS;
            for (int i = 0; i < changes; i++) {
                if (changeRules[i] == which && changeDays[i] > from) {
                    until = Math.min(until, changeDays[i]);
                }
            }
            if (which < 0 || which >= RULES) {
                return;
            }
            for (int day = Math.max(0, from); day < until; day++) {
                rules[which][day] = value;
            }
        }

        /** Up to where a tier takes of a balance. */
        private long topOf(int tier, long balance) {
            if (tier < 0 || tier >= MOST_TIERS || tops[tier] == NONE) {
                return balance;
            }
            return Math.min(balance, tops[tier]);
        }

        long partOf(int tier, long balance) {
            long below = tier == 0 ? 0 : topOf(tier - 1, balance);
            return Math.max(0, topOf(tier, balance) - below);
        }

        long partAboveAll(long balance) {
            long below = tiers == 0 ? 0 : topOf(tiers - 1, balance);
            return Math.max(0, balance - below);
        }

        long owedWithin(int day, long balance) {
            return Math.min(Math.max(0, -balance), rule(LIMIT, day));
        }

        long owedAbove(int day, long balance) {
            return Math.max(0, -balance - rule(LIMIT, day));
        }

        long credit(int day, long balance) {
            if (day < 0 || day >= Ledger.MOST_DAYS) {
                return 0;
            }
            long sum = 0;
            long below = 0;
            for (int tier = 0; tier < tiers && below < balance; tier++) {
                long top = tops[tier] == NONE || tops[tier] > balance ? balance : tops[tier];
                sum += (top - below) * rules[tier][day];
                below = top;
            }
            return sum;
        }

        long debt(int day, long balance) {
            return day < 0 || day >= Ledger.MOST_DAYS ? 0 : debtBy(rules[LIMIT][day], day, balance);
        }

        long debtBy(int limit, int day, long balance) {
            if (balance >= 0 || day < 0 || day >= Ledger.MOST_DAYS) {
                return 0;
            }
            long owed = -balance;
            long within = owed < limit ? owed : limit;
            return within * rules[DEBIT][day] + (owed - within) * rules[OVER][day];
        }

        /** How much more a day's product is, were a tier's rate so much more, 0 at least. */
        long tiltOf(int tier, int more, int day, long balance) {
            int rate = rule(tier, day);
            return partOf(tier, balance) * (Math.max(0, rate + more) - rate);
        }
    }

    /** The entries by number, and their order by value days. */
    private static final class Entries {
        static final int MONEY = 0;
        static final int INTEREST = 1;
        static final int CORRECTION = 2;
        static final int TURNED = 3;
        // 30 lines, 8 closings, 26 reruns of up to 7 periods each: 220 at most.
        static final int ROOM = 220;
        // No value day comes near it: the latest compounding day is 360.
        static final int BEHIND_ALL = 1000;

        private final int[] sorts = new int[ROOM];
        private final long[] amounts = new long[ROOM];
        private final int[] values = new int[ROOM];
        private final int[] pages = new int[ROOM];
        private final int[] origins = new int[ROOM];
        private final int[] order = new int[ROOM];
        private int size;

        int size() {
            return size;
        }

        boolean has(int entry) {
            return entry >= 0 && entry < size;
        }

        int sortOf(int entry) {
            return has(entry) ? sorts[entry] : NONE;
        }

        long amountOf(int entry) {
            return has(entry) ? amounts[entry] : 0;
        }

        int valueOf(int entry) {
            return has(entry) ? values[entry] : NONE;
        }

        int pageOf(int entry) {
            return has(entry) ? pages[entry] : NONE;
        }

        int periodOf(int entry) {
            return isInterest(entry) ? origins[entry] : NONE;
        }

        int turnedOf(int entry) {
            return has(entry) && sorts[entry] == TURNED ? origins[entry] : NONE;
        }

        boolean isInterest(int entry) {
            return has(entry) && (sorts[entry] == INTEREST || sorts[entry] == CORRECTION);
        }

        int inOrder(int k) {
            return has(k) ? order[k] : NONE;
        }

        void clear() {
            size = 0;
        }

        /** The origin is the period or the entry it is of. */
        void add(int sort, long amount, int value, int page, int origin) {
            if (size >= ROOM) {
                return;
            }
            sorts[size] = sort;
            amounts[size] = amount;
            values[size] = value;
            pages[size] = page;
            origins[size] = origin;
            // Behind all of its value day, since its number is the highest.
            int at = size;
            while (at > 0 && values[order[at - 1]] > value) {
                order[at] = order[at - 1];
                at--;
            }
            order[at] = size;
            size++;
        }

        boolean isTurnedBack(int entry) {
            for (int i = 0; i < size; i++) {
                if (sorts[i] == TURNED && origins[i] == entry) {
                    return true;
                }
            }
            return false;
        }

        /** How many paid or drawn ones have a lower number. */
        int moneyAhead(int entry) {
            int ahead = 0;
            for (int i = 0; i < size && i < entry; i++) {
                if (sorts[i] == MONEY) {
                    ahead++;
                }
            }
            return ahead;
        }

        /** The entry that has so many paid or drawn ones ahead of it, and is one. */
        int moneyAt(int ahead) {
            int met = 0;
            for (int i = 0; i < size; i++) {
                if (sorts[i] == MONEY) {
                    if (met == ahead) {
                        return i;
                    }
                    met++;
                }
            }
            return NONE;
        }

        long interestBooked(int period) {
            long sum = 0;
            for (int i = 0; i < size; i++) {
                if (origins[i] == period && isInterest(i)) {
                    sum += amounts[i];
                }
            }
            return sum;
        }

        long sum() {
            long sum = 0;
            for (int i = 0; i < size; i++) {
                sum += amounts[i];
            }
            return sum;
        }

        long sumOfPrincipal() {
            long sum = 0;
            for (int i = 0; i < size; i++) {
                if (!isInterest(i)) {
                    sum += amounts[i];
                }
            }
            return sum;
        }

        long sumAhead(int period) {
            long sum = 0;
            for (int i = 0; i < size; i++) {
                if (pages[i] < period) {
                    sum += amounts[i];
                }
            }
            return sum;
        }

        long sumOn(int period, int sort) {
            long sum = 0;
            for (int i = 0; i < size; i++) {
                if (pages[i] == period && sorts[i] == sort) {
                    sum += amounts[i];
                }
            }
            return sum;
        }

        long paidOn(int period) {
            long sum = 0;
            for (int i = 0; i < size; i++) {
                if (pages[i] == period && sorts[i] == MONEY) {
                    sum += Math.max(0, amounts[i]);
                }
            }
            return sum;
        }

        long drawnOn(int period) {
            return paidOn(period) - sumOn(period, MONEY);
        }

        int sizeOn(int period) {
            return sizeValued(period, 0, BEHIND_ALL);
        }

        /** Of a page those whose value day is the first one or later, and ahead of the other one. */
        int sizeValued(int period, int first, int behind) {
            int met = 0;
            for (int i = 0; i < size; i++) {
                if (pages[i] == period && values[i] >= first && values[i] < behind) {
                    met++;
                }
            }
            return met;
        }

        long sumValued(int period, int first, int behind) {
            long sum = 0;
            for (int i = 0; i < size; i++) {
                if (pages[i] == period && values[i] >= first && values[i] < behind) {
                    sum += amounts[i];
                }
            }
            return sum;
        }

        int onPage(int period, int i) {
            int met = 0;
            for (int entry = 0; entry < size; entry++) {
                if (pages[entry] == period) {
                    if (met == i) {
                        return entry;
                    }
                    met++;
                }
            }
            return NONE;
        }

        /** How many unlike value days there are ahead of a day. */
        int valueDaysAhead(int day) {
            int met = 0;
            int last = NONE;
            for (int k = 0; k < size; k++) {
                int value = values[order[k]];
                if (value < day && value != last) {
                    met++;
                    last = value;
                }
            }
            return met;
        }
    }

    /** The account as known now. */
    private static final class Ledger {
        static final int MOST_SPAN = 40;
        static final int MOST_PERIODS = 8;
        static final int MOST_DAYS = 320;
        private static final long INTEREST_UNIT = 3600000;

        final Terms terms = new Terms();
        final Entries entries = new Entries();
        private final long[] balances = new long[MOST_DAYS];
        private final long[] trial = new long[MOST_DAYS];
        private int span;
        private int periods;
        private int cycle;
        private int closed;

        int span() {
            return span;
        }

        int periods() {
            return periods;
        }

        int cycle() {
            return cycle;
        }

        int closed() {
            return closed;
        }

        int days() {
            return span * periods;
        }

        boolean isDay(int day) {
            return day >= 0 && day < span * periods;
        }

        boolean isPeriod(int period) {
            return period >= 0 && period < periods;
        }

        boolean isClosed(int period) {
            return period >= 0 && period < closed;
        }

        boolean hasOpen() {
            return closed < periods;
        }

        int firstDay(int period) {
            return period * span;
        }

        int compoundingDay(int period) {
            return cycle < 1 ? 0 : span * cycle * (period / cycle + 1);
        }

        long standing(int day) {
            return day >= 0 && day < MOST_DAYS ? balances[day] : 0;
        }

        // ---- how it comes about

        /** All rows of a script from the first on, by a compounding cycle of its own. */
        void replay(Script script, int byCycle) {
            terms.clear();
            entries.clear();
            Arrays.fill(balances, 0);
            closed = 0;
            span = script.told(0, 1);
            periods = script.told(0, 2);
            cycle = byCycle;
            for (int row = 1; row < script.size(); row++) {
                perform(script, row);
            }
        }

        void perform(Script script, int row) {
            int a = script.told(row, 1);
            int b = script.told(row, 2);
            int c = script.told(row, 3);
            switch (script.told(row, 0)) {
                case Script.TIER: terms.addTier(a, b); break;
                case Script.DEBIT: terms.tellDebit(a, b, c); break;
                case Script.CHANGE: terms.addChange(a, b, c); break;
                case Script.MONEY: addEntry(Entries.MONEY, b, a, NONE); break;
                case Script.CLOSE: closeOpen(); break;
                case Script.RERUN: runAnew(); break;
                case Script.REVERSE: turnBack(entries.moneyAt(a)); break;
                default: break;
            }
        }

        private void addEntry(int sort, long amount, int value, int origin) {
            entries.add(sort, amount, value, closed, origin);
            shift(balances, value, amount);
        }

        private void closeOpen() {
            if (hasOpen()) {
                long amount = nearest(productsOf(balances, closed, 0, 0));
                addEntry(Entries.INTEREST, amount, compoundingDay(closed), closed);
                closed++;
            }
        }

        private void runAnew() {
            for (int period = 0; period < closed; period++) {
                long more = nearest(productsOf(balances, period, 0, 0)) - entries.interestBooked(period);
                if (more != 0) {
                    addEntry(Entries.CORRECTION, more, compoundingDay(period), period);
                }
            }
        }

        private void turnBack(int entry) {
            if (entries.has(entry)) {
                addEntry(Entries.TURNED, -entries.amountOf(entry), entries.valueOf(entry), entry);
            }
        }

        // ---- interest

        long interestNow(int period) {
            return interest(balances, period, 0, 0);
        }

        long interestOfAll() {
            return interestOfAllBy(balances, 0, 0);
        }

        long interestOfAllBy(long[] standings, int from, long more) {
            long sum = 0;
            for (int period = 0; period < periods; period++) {
                sum += interest(standings, period, from, more);
            }
            return sum;
        }

        long interest(long[] standings, int period, int from, long more) {
            return nearest(productsOf(standings, period, from, more));
        }

        /** By balances that are so much more from a day on. */
        long productsOf(long[] standings, int period, int from, long more) {
            long sum = 0;
            int behind = Math.min(standings.length, firstDay(period) + span);
            for (int day = Math.max(0, firstDay(period)); day < behind; day++) {
                long standing = day < from ? standings[day] : standings[day] + more;
                sum += terms.credit(day, standing) - terms.debt(day, standing);
            }
            return sum;
        }

        static long nearest(long products) {
            long whole = (Math.abs(products) + INTEREST_UNIT / 2) / INTEREST_UNIT;
            return products < 0 ? -whole : whole;
        }

        // ---- balances that might be

        void shift(long[] standings, int from, long amount) {
            int behind = Math.min(standings.length, days());
            for (int day = Math.max(0, from); day < behind; day++) {
                standings[day] += amount;
            }
        }

        long[] balances() {
            return balances;
        }

        /** A copy of the balances to try things on: one row for all calls. */
        long[] trialBalances() {
            System.arraycopy(balances, 0, trial, 0, MOST_DAYS);
            return trial;
        }

        /** The same row, by paid, drawn and turned back entries alone. */
        long[] trialPrincipal() {
            Arrays.fill(trial, 0);
            for (int entry = 0; entry < entries.size(); entry++) {
                int value = entries.valueOf(entry);
                if (!entries.isInterest(entry) && isDay(value) && value < MOST_DAYS) {
                    trial[value] += entries.amountOf(entry);
                }
            }
            for (int day = 1; day < MOST_DAYS; day++) {
                trial[day] += trial[day - 1];
            }
            return trial;
        }

        /** Interest of a period by such a row, which counts there from the compounding day on. */
        long compoundOn(long[] standings, int period) {
            long amount = interest(standings, period, 0, 0);
            shift(standings, compoundingDay(period), amount);
            return amount;
        }

        /** What a rerun would put right of a period, put right in such a row. */
        long correctOn(long[] standings, int period) {
            long amount = interest(standings, period, 0, 0) - entries.interestBooked(period);
            shift(standings, compoundingDay(period), amount);
            return amount;
        }
    }

    /** The balance, its parts and its limit over days. */
    private static final class Course {
        private static final int MOST_MOVED = 999999;

        private final Ledger ledger;
        private final Terms terms;

        Course(Ledger ledger) {
            this.ledger = ledger;
            terms = ledger.terms;
        }

        long creditOf(int period) {
            long sum = 0;
            int first = ledger.firstDay(period);
            for (int day = first; day < first + ledger.span(); day++) {
                sum += terms.credit(day, ledger.standing(day));
            }
            return sum;
        }

        long debtOf(int period) {
            long sum = 0;
            int first = ledger.firstDay(period);
            for (int day = first; day < first + ledger.span(); day++) {
                sum += terms.debt(day, ledger.standing(day));
            }
            return sum;
        }

        long creditOfTier(int period, int tier) {
            long sum = 0;
            int first = ledger.firstDay(period);
            for (int day = first; day < first + ledger.span(); day++) {
                sum += terms.partOf(tier, ledger.standing(day)) * terms.rule(tier, day);
            }
            return sum;
        }

        long meanAbove(int period) {
            long sum = standingsOf(period);
            return sum / commonDivisor(sum);
        }

        long meanBelow(int period) {
            return ledger.span() / commonDivisor(standingsOf(period));
        }

        private long standingsOf(int period) {
            long sum = 0;
            int first = ledger.firstDay(period);
            for (int day = first; day < first + ledger.span(); day++) {
                sum += ledger.standing(day);
            }
            return sum;
        }

        /** The greatest one of a sum and the days of a period: 1 at least. */
        private int commonDivisor(long sum) {
            for (int by = ledger.span(); by > 1; by--) {
                if (ledger.span() % by == 0 && sum % by == 0) {
                    return by;
                }
            }
            return 1;
        }

        private boolean isStep(int day) {
            return ledger.standing(day) != ledger.standing(day - 1);
        }

        int stepsTill(int behind) {
            int met = 0;
            for (int day = 1; day < behind; day++) {
                if (isStep(day)) {
                    met++;
                }
            }
            return met;
        }

        int stepDay(int i) {
            int met = 0;
            for (int day = 1; day < ledger.days(); day++) {
                if (isStep(day)) {
                    if (met == i) {
                        return day;
                    }
                    met++;
                }
            }
            return NONE;
        }

        long leastStanding() {
            long least = ledger.standing(0);
            for (int day = 1; day < ledger.days(); day++) {
                least = Math.min(least, ledger.standing(day));
            }
            return least;
        }

        /** What may still be drawn on a day; below 0: what is owed above the limit. */
        private long room(int day) {
            return ledger.standing(day) + terms.rule(Terms.LIMIT, day);
        }

        private long roomFrom(int first) {
            long least = room(first);
            for (int day = first + 1; day < ledger.days(); day++) {
                least = Math.min(least, room(day));
            }
            return least;
        }

        int daysBeyond() {
            int met = 0;
            for (int day = 0; day < ledger.days(); day++) {
                if (room(day) < 0) {
                    met++;
                }
            }
            return met;
        }

        int firstDayBeyond() {
            for (int day = 0; day < ledger.days(); day++) {
                if (room(day) < 0) {
                    return day;
                }
            }
            return NONE;
        }

        int mostDrawn(int day) {
            long room = roomFrom(day);
            return room < 0 ? NONE : (int) Math.min(room, MOST_MOVED);
        }

        int leastPaid(int day) {
            long lack = Math.max(0, -roomFrom(day));
            return lack > MOST_MOVED ? NONE : (int) lack;
        }

        int firstDayAt(int amount) {
            for (int day = 0; day < ledger.days(); day++) {
                if (ledger.standing(day) >= amount) {
                    return day;
                }
            }
            return NONE;
        }
    }

    /** What would be by other entries, days, rates, limits. */
    private static final class WhatIf {
        // The first steps of searches among amounts, among rates: the highest bit of what they go up to.
        private static final int AMOUNT_BIT = 1 << 16;
        private static final int RATE_BIT = 1 << 12;

        private final Ledger ledger;
        private final Terms terms;
        private final Entries entries;

        WhatIf(Ledger ledger) {
            this.ledger = ledger;
            terms = ledger.terms;
            entries = ledger.entries;
        }

        long gainIn(int entry, int period) {
            long without = ledger.interest(ledger.balances(), period, entries.valueOf(entry), -entries.amountOf(entry));
            return ledger.interestNow(period) - without;
        }

        long gainBy(int entry) {
            long sum = 0;
            for (int period = 0; period < ledger.periods(); period++) {
                sum += gainIn(entry, period);
            }
            return sum;
        }

        int mostGuilty(int period) {
            int worst = NONE;
            long most = 0;
            for (int entry = 0; entry < entries.size(); entry++) {
                long gain = Math.abs(gainIn(entry, period));
                if (gain > most) {
                    most = gain;
                    worst = entry;
                }
            }
            return worst;
        }

        long gainByMoving(int entry, int day) {
            long[] standings = ledger.trialBalances();
            ledger.shift(standings, entries.valueOf(entry), -entries.amountOf(entry));
            return ledger.interestOfAllBy(standings, day, entries.amountOf(entry)) - ledger.interestOfAll();
        }

        /**
         * Goes from the last day to the first: with each one a single day's product becomes another one,
         * so that only its own period's interest is to be rounded anew.
         */
        int dayOfMost(int entry) {
            long amount = entries.amountOf(entry);
            long[] standings = ledger.trialBalances();
            ledger.shift(standings, entries.valueOf(entry), -amount);
            long gainBehind = 0;
            long most = 0;
            int best = NONE;
            for (int period = ledger.periods() - 1; period >= 0; period--) {
                int first = Math.max(0, ledger.firstDay(period));
                int behind = Math.min(standings.length, first + ledger.span());
                long products = ledger.productsOf(standings, period, 0, 0);
                long without = Ledger.nearest(products);
                for (int day = behind - 1; day >= first; day--) {
                    products += productOf(day, standings[day] + amount) - productOf(day, standings[day]);
                    long gain = gainBehind + Ledger.nearest(products) - without;
                    if (best == NONE || gain >= most) {
                        most = gain;
                        best = day;
                    }
                }
                gainBehind += Ledger.nearest(products) - without;
            }
            return best;
        }

        private long productOf(int day, long standing) {
            return terms.credit(day, standing) - terms.debt(day, standing);
        }

        long unlikeWith(int day, int amount) {
            long sum = 0;
            for (int period = 0; period < ledger.closed(); period++) {
                sum += ledger.interest(ledger.balances(), period, day, amount) - entries.interestBooked(period);
            }
            return sum;
        }

        int firstTouched(int day, int amount) {
            for (int period = 0; period < ledger.closed(); period++) {
                if (ledger.interest(ledger.balances(), period, day, amount) != ledger.interestNow(period)) {
                    return period;
                }
            }
            return NONE;
        }

        // ---- other rates, limits

        long gainByTilt(int tier, int more) {
            long sum = 0;
            for (int period = 0; period < ledger.periods(); period++) {
                long products = ledger.productsOf(ledger.balances(), period, 0, 0);
                sum += Ledger.nearest(products + tiltIn(period, tier, more)) - Ledger.nearest(products);
            }
            return sum;
        }

        private long tiltIn(int period, int tier, int more) {
            long sum = 0;
            int first = ledger.firstDay(period);
            for (int day = first; day < first + ledger.span(); day++) {
                sum += terms.tiltOf(tier, more, day, ledger.standing(day));
            }
            return sum;
        }

        long gainByLimit(int limit) {
            long sum = 0;
            for (int period = 0; period < ledger.periods(); period++) {
                sum += Ledger.nearest(limitedProducts(period, limit)) - ledger.interestNow(period);
            }
            return sum;
        }

        private long limitedProducts(int period, int limit) {
            long sum = 0;
            int first = ledger.firstDay(period);
            for (int day = first; day < first + ledger.span(); day++) {
                long standing = ledger.standing(day);
                sum += terms.credit(day, standing) - terms.debtBy(limit, day, standing);
            }
            return sum;
        }

        // ---- the least that does: interest never falls as amounts or rates grow, so a search by halves finds it

        int leastFor(int day, int n) {
            long goal = ledger.interestOfAll() + n;
            int tooLittle = 0;
            for (int bit = AMOUNT_BIT; bit > 0; bit >>= 1) {
                int amount = tooLittle + bit;
                if (amount <= MOST_AMOUNT && ledger.interestOfAllBy(ledger.balances(), day, amount) < goal) {
                    tooLittle = amount;
                }
            }
            return tooLittle < MOST_AMOUNT ? tooLittle + 1 : NONE;
        }

        int leastTilt(int tier, int n) {
            int tooLittle = 0;
            for (int bit = RATE_BIT; bit > 0; bit >>= 1) {
                int more = tooLittle + bit;
                if (more <= MOST_RATE && gainByTilt(tier, more) < n) {
                    tooLittle = more;
                }
            }
            return tooLittle < MOST_RATE ? tooLittle + 1 : NONE;
        }

        int leastPlan(int day, int n) {
            if (settlementWith(day, n, 0) >= 0) {
                return 0;
            }
            int tooLittle = 0;
            for (int bit = AMOUNT_BIT; bit > 0; bit >>= 1) {
                int amount = tooLittle + bit;
                if (amount <= MOST_AMOUNT && settlementWith(day, n, amount) < 0) {
                    tooLittle = amount;
                }
            }
            return tooLittle < MOST_AMOUNT ? tooLittle + 1 : NONE;
        }

        // ---- periods run anew, closed

        int correctionsNow() {
            int met = 0;
            long[] standings = ledger.trialBalances();
            for (int period = 0; period < ledger.closed(); period++) {
                if (ledger.correctOn(standings, period) != 0) {
                    met++;
                }
            }
            return met;
        }

        long correctedNow() {
            long sum = 0;
            long[] standings = ledger.trialBalances();
            for (int period = 0; period < ledger.closed(); period++) {
                sum += ledger.correctOn(standings, period);
            }
            return sum;
        }

        long settlement() {
            return ledger.hasOpen() ? settlementWith(0, 0, 0) : entries.sum();
        }

        /**
         * While a period is open: a rerun comes ahead of the last closing, so whatever was booked till then,
         * each period ends with its interest by all that is known, by its compounding day.
         */
        long settlementWith(int day, int n, int amount) {
            long[] standings = ledger.trialPrincipal();
            for (int i = 0; i < n; i++) {
                ledger.shift(standings, day + i * ledger.span(), amount);
            }
            long sum = entries.sumOfPrincipal() + (long) n * amount;
            for (int period = 0; period < ledger.periods(); period++) {
                sum += ledger.compoundOn(standings, period);
            }
            return sum;
        }

        /** What is turned back is in the principal twice, with both signs, and so is as if it were not there. */
        long idealInterest(int period) {
            long[] standings = ledger.trialPrincipal();
            for (int ahead = 0; ahead < period; ahead++) {
                ledger.compoundOn(standings, ahead);
            }
            return ledger.interest(standings, period, 0, 0);
        }
    }

    /** Entries below 0 paid off by those above 0. */
    private static final class PaidOff {
        private final Entries entries;
        private final long[] rests = new long[Entries.ROOM];
        private final int[] lastDays = new int[Entries.ROOM];

        PaidOff(Entries entries) {
            this.entries = entries;
        }

        long restOf(int entry) {
            return isEntry(entry) ? rests[entry] : 0;
        }

        /** NONE while some is left, and of 0. */
        int lastDayOf(int entry) {
            return isEntry(entry) ? lastDays[entry] : NONE;
        }

        int firstOwed() {
            for (int k = 0; k < entries.size(); k++) {
                int entry = entries.inOrder(k);
                if (entries.amountOf(entry) < 0 && restOf(entry) > 0) {
                    return entry;
                }
            }
            return NONE;
        }

        void reckon() {
            for (int entry = 0; entry < entries.size() && entry < Entries.ROOM; entry++) {
                rests[entry] = Math.abs(entries.amountOf(entry));
                lastDays[entry] = NONE;
            }
            int above = nextOf(1, 0);
            int below = nextOf(-1, 0);
            // Each turn ends one entry at least.
            for (int turn = 0; turn < entries.size() && entries.has(above) && entries.has(below); turn++) {
                int payer = entries.inOrder(above);
                int debtor = entries.inOrder(below);
                long less = Math.min(restOf(payer), restOf(debtor));
                int day = Math.max(entries.valueOf(payer), entries.valueOf(debtor));
                takeOff(payer, less, day);
                takeOff(debtor, less, day);
                above = restOf(payer) == 0 ? nextOf(1, above + 1) : above;
                below = restOf(debtor) == 0 ? nextOf(-1, below + 1) : below;
            }
        }

        private boolean isEntry(int entry) {
            return entry >= 0 && entry < Entries.ROOM && entries.has(entry);
        }

        private void takeOff(int entry, long amount, int day) {
            if (isEntry(entry)) {
                rests[entry] -= amount;
                if (rests[entry] == 0) {
                    lastDays[entry] = day;
                }
            }
        }

        /** The place in the order by value days, from one on, of the next entry of a sign; NONE behind the last. */
        private int nextOf(int sign, int from) {
            for (int k = Math.max(0, from); k < entries.size(); k++) {
                if (entries.amountOf(entries.inOrder(k)) * sign > 0) {
                    return k;
                }
            }
            return NONE;
        }
    }
}
