import java.math.BigDecimal;
import java.math.BigInteger;
import java.math.RoundingMode;
import java.util.ArrayList;
import java.util.Comparator;
import java.util.List;
import java.util.TreeSet;
import java.util.regex.Matcher;
import java.util.regex.Pattern;

/**
 * The document's calls in their plainest form, for ModelTest: no row is kept that could be reckoned anew,
 * what would be is done on a copy, and nothing is shared with the class under test.
 */
public final class PlainBook {
    private static final long NO_SUCH = Long.MIN_VALUE;

    private record Entry(int sort, long amount, int value, int page, int period, int turned) {
    }

    private record Change(int day, int which, int v) {
    }

    private record Op(String kind, int a, int b, int c) {
    }

    private static final class Fault extends RuntimeException {
        private static final long serialVersionUID = 1L;
        final int kind;
        final int place;

        Fault(int kind, int place) {
            this.kind = kind;
            this.place = place;
        }
    }

    /** An account as known at one moment. */
    private static final class State {
        int p;
        int n;
        int k;
        int closed;
        int[] debit = {0, 0, 0};
        int limitForAll = -1;
        int tiltTier = -1;
        int tilt = 0;
        List<int[]> tiers = new ArrayList<>();
        List<Change> changes = new ArrayList<>();
        List<Entry> entries = new ArrayList<>();

        State copy() {
            State s = new State();
            s.p = p;
            s.n = n;
            s.k = k;
            s.closed = closed;
            s.debit = debit.clone();
            s.tiers = new ArrayList<>(tiers);
            s.changes = new ArrayList<>(changes);
            s.entries = new ArrayList<>(entries);
            return s;
        }

        int days() {
            return p * n;
        }

        long rule(int which, int day) {
            long v = which < 4 ? tiers.get(which)[0] : debit[which - 4];
            int best = -1;
            for (Change c : changes) {
                if (c.which == which && c.day <= day && c.day >= best) {
                    best = c.day;
                    v = c.v;
                }
            }
            if (which == 6 && limitForAll >= 0) {
                return limitForAll;
            }
            return which == tiltTier ? Math.max(0, v + tilt) : v;
        }

        long balance(int day) {
            long sum = 0;
            for (Entry e : entries) {
                if (e.value <= day) {
                    sum += e.amount;
                }
            }
            return sum;
        }

        long part(int day, int t) {
            long b = balance(day);
            if (t <= tiers.size()) {
                long low = t == 0 ? 0 : tiers.get(t - 1)[1];
                if (t > 0 && low == -1) {
                    return 0;
                }
                long high = t == tiers.size() || tiers.get(t)[1] == -1 ? Long.MAX_VALUE : tiers.get(t)[1];
                return b <= low ? 0 : Math.min(b, high) - low;
            }
            long owed = b < 0 ? -b : 0;
            long limit = rule(6, day);
            if (t == tiers.size() + 1) {
                return owed > limit ? limit : owed;
            }
            return owed > limit ? owed - limit : 0;
        }

        long credit(int day) {
            long sum = 0;
            for (int t = 0; t < tiers.size(); t++) {
                sum += part(day, t) * rule(t, day);
            }
            return sum;
        }

        long debt(int day) {
            return part(day, tiers.size() + 1) * rule(4, day) + part(day, tiers.size() + 2) * rule(5, day);
        }

        long interest(int period) {
            long sum = 0;
            for (int d = period * p; d < (period + 1) * p; d++) {
                sum += credit(d) - debt(d);
            }
            return new BigDecimal(sum).divide(new BigDecimal(3600000), 0, RoundingMode.HALF_UP).longValueExact();
        }

        long all() {
            long sum = 0;
            for (int i = 0; i < n; i++) {
                sum += interest(i);
            }
            return sum;
        }

        int compounding(int period) {
            return p * k * (period / k + 1);
        }

        long booked(int period) {
            long sum = 0;
            for (Entry e : entries) {
                if (e.period == period) {
                    sum += e.amount;
                }
            }
            return sum;
        }

        void close() {
            entries.add(new Entry(1, interest(closed), compounding(closed), closed, closed, -1));
            closed++;
        }

        int rerun() {
            int made = 0;
            for (int i = 0; i < closed; i++) {
                long more = interest(i) - booked(i);
                if (more != 0) {
                    entries.add(new Entry(2, more, compounding(i), closed, i, -1));
                    made++;
                }
            }
            return made;
        }

        long total() {
            long sum = 0;
            for (Entry e : entries) {
                sum += e.amount;
            }
            return sum;
        }

        long settled() {
            State s = copy();
            if (s.closed < s.n) {
                while (s.closed < s.n - 1) {
                    s.close();
                }
                s.rerun();
                s.close();
            }
            return s.total();
        }

        boolean turnedBack(int entry) {
            for (Entry e : entries) {
                if (e.turned == entry) {
                    return true;
                }
            }
            return false;
        }

        void money(int day, long amount) {
            entries.add(new Entry(0, amount, day, closed, -1, -1));
        }

        void perform(Op op) {
            switch (op.kind) {
                case "tier" -> tiers.add(new int[] {op.a, op.b});
                case "debit" -> debit = new int[] {op.a, op.b, op.c};
                case "from" -> changes.add(new Change(op.a, op.b, op.c));
                case "money" -> money(op.a, op.b);
                case "close" -> close();
                case "rerun" -> rerun();
                case "reverse" -> {
                    int met = -1;
                    int i = -1;
                    while (met < op.a) {
                        i++;
                        if (entries.get(i).sort == 0) {
                            met++;
                        }
                    }
                    Entry e = entries.get(i);
                    entries.add(new Entry(3, -e.amount, e.value, closed, -1, i));
                }
                default -> throw new IllegalStateException(op.kind);
            }
        }
    }

    private final StringBuilder tape = new StringBuilder();
    private List<Op> lines = new ArrayList<>();
    private List<Op> acts = new ArrayList<>();
    private final List<List<List<Op>>> images = new ArrayList<>(List.of(List.of(), List.of(), List.of()));
    private int faultKind = 0;
    private int faultPlace = -1;
    private State s = new State();

    private State made(int k) {
        State m = new State();
        if (lines.isEmpty()) {
            return m;
        }
        m.p = lines.get(0).a;
        m.n = lines.get(0).b;
        m.k = k;
        for (Op op : lines.subList(1, lines.size())) {
            m.perform(op);
        }
        for (Op op : acts) {
            m.perform(op);
        }
        return m;
    }

    private void make() {
        s = made(lines.isEmpty() ? 0 : lines.get(0).c);
    }

    public int feed(int a, int b, int c, int d, int e) {
        if (tape.length() > 880) {
            return -1;
        }
        for (int v : new int[] {a, b, c, d, e}) {
            tape.append((char) (v >>> 24)).append((char) (v >>> 16 & 255)).append((char) (v >>> 8 & 255)).append((char) (v & 255));
        }
        return tape.length();
    }

    public int end(int n) {
        if (n < 0 || n > tape.length()) {
            return -1;
        }
        tape.setLength(n);
        return n;
    }

    // ---- the text

    private List<String> words;
    private List<Integer> places;
    private int at;

    private String peek() {
        return at < words.size() ? words.get(at) : "";
    }

    private void word(String w) {
        if (!peek().equals(w)) {
            throw new Fault(1, places.get(at));
        }
        at++;
    }

    private int number(int low, int high) {
        if (!peek().matches("[0-9]+")) {
            throw new Fault(1, places.get(at));
        }
        BigInteger v = new BigInteger(peek());
        if (v.compareTo(BigInteger.valueOf(low)) < 0 || v.compareTo(BigInteger.valueOf(high)) > 0) {
            throw new Fault(2, places.get(at));
        }
        at++;
        return v.intValue();
    }

    private static long kinds(List<Op> ops, String kind) {
        return ops.stream().filter(o -> o.kind.equals(kind)).count();
    }

    private Op line(List<Op> ahead) {
        if (ahead.isEmpty()) {
            word("book");
            word("days");
            int p = number(2, 40);
            word("periods");
            int n = number(1, 8);
            word("compound");
            return new Op("book", p, n, number(1, 4));
        }
        int days = ahead.get(0).a * ahead.get(0).b;
        boolean open = kinds(ahead, "close") < ahead.get(0).b;
        List<Op> tiers = ahead.stream().filter(o -> o.kind.equals("tier")).toList();
        Op lastTier = tiers.isEmpty() ? null : tiers.get(tiers.size() - 1);
        int place = places.get(at);
        switch (peek()) {
            case "tier": {
                if (tiers.size() == 4 || lastTier != null && lastTier.b == -1) {
                    throw new Fault(3, place);
                }
                at++;
                int r = number(0, 5000);
                if (peek().equals("to")) {
                    at++;
                    return new Op("tier", r, number(lastTier == null ? 1 : lastTier.b + 1, 99999), 0);
                }
                return new Op("tier", r, -1, 0);
            }
            case "debit": {
                if (kinds(ahead, "debit") > 0) {
                    throw new Fault(3, place);
                }
                at++;
                int r = number(0, 5000);
                word("over");
                int o = number(0, 5000);
                word("limit");
                return new Op("debit", r, o, number(0, 99999));
            }
            case "from": {
                if (kinds(ahead, "from") >= 12) {
                    throw new Fault(3, place);
                }
                at++;
                int d = number(0, days - 1);
                String w = peek();
                at++;
                switch (w) {
                    case "tier": {
                        int t = number(0, tiers.size() - 1);
                        return new Op("from", d, t, number(0, 5000));
                    }
                    case "debit": return new Op("from", d, 4, number(0, 5000));
                    case "over": return new Op("from", d, 5, number(0, 5000));
                    case "limit": return new Op("from", d, 6, number(0, 99999));
                    default: throw new Fault(1, places.get(at - 1));
                }
            }
            case "pay":
            case "draw": {
                if (kinds(ahead, "money") >= 30 || !open) {
                    throw new Fault(3, place);
                }
                int sign = peek().equals("pay") ? 1 : -1;
                at++;
                int v = number(0, days - 1);
                return new Op("money", v, sign * number(1, 99999), 0);
            }
            case "close": {
                if (!open) {
                    throw new Fault(3, place);
                }
                at++;
                return new Op("close", 0, 0, 0);
            }
            case "rerun": {
                if (!open || kinds(ahead, "rerun") >= 6) {
                    throw new Fault(3, place);
                }
                at++;
                return new Op("rerun", 0, 0, 0);
            }
            default:
                throw new Fault(1, place);
        }
    }

    public int book() {
        words = new ArrayList<>();
        places = new ArrayList<>();
        Matcher m = Pattern.compile("[a-z]+|[0-9]+|[^ \n]", Pattern.DOTALL).matcher(tape);
        while (m.find()) {
            words.add(m.group());
            places.add(m.start());
        }
        places.add(tape.length());
        places.add(tape.length());
        tape.setLength(0);
        at = 0;
        List<Op> ops = new ArrayList<>();
        try {
            while (at < words.size()) {
                Op op = line(ops);
                word(";");
                ops.add(op);
            }
        } catch (Fault f) {
            faultKind = f.kind;
            faultPlace = f.place;
            return -4;
        }
        faultKind = 0;
        faultPlace = -1;
        lines = ops;
        acts = new ArrayList<>();
        make();
        return lines.size();
    }

    public int fault(int what) {
        return what == 0 ? faultKind : what == 1 ? faultPlace : -1;
    }

    public int count(int what) {
        return switch (what) {
            case 0 -> s.p;
            case 1 -> s.n;
            case 2 -> s.k;
            case 3 -> s.tiers.size();
            case 4 -> s.changes.size();
            case 5 -> s.entries.size();
            case 6 -> s.closed;
            case 7 -> acts.size();
            case 8 -> lines.size();
            case 9 -> tape.length();
            default -> -1;
        };
    }

    // ---- what there is

    private boolean none() {
        return lines.isEmpty();
    }

    private boolean day(int d) {
        return d >= 0 && d < s.days();
    }

    private boolean period(int p) {
        return p >= 0 && p < s.n;
    }

    private boolean has(int e) {
        return e >= 0 && e < s.entries.size();
    }

    private boolean tier(int t) {
        return t >= 0 && t < s.tiers.size();
    }

    private static boolean in(long v, long low, long high) {
        return v >= low && v <= high;
    }

    private List<Integer> byValue() {
        List<Integer> order = new ArrayList<>();
        for (int i = 0; i < s.entries.size(); i++) {
            order.add(i);
        }
        order.sort(Comparator.comparing((Integer i) -> s.entries.get(i).value).thenComparing(i -> i));
        return order;
    }

    private List<Integer> onPage(int period) {
        List<Integer> found = new ArrayList<>();
        for (int i = 0; i < s.entries.size(); i++) {
            if (s.entries.get(i).page == period) {
                found.add(i);
            }
        }
        return found;
    }

    public long entry(int entry, int what) {
        if (!has(entry) || !in(what, 0, 5)) {
            return NO_SUCH;
        }
        Entry e = s.entries.get(entry);
        return new long[] {e.sort, e.amount, e.value, e.page, e.period, e.turned}[what];
    }

    public int sorted(int k) {
        if (k < 0 || none()) {
            return -2;
        }
        return k < s.entries.size() ? byValue().get(k) : -1;
    }

    public int rate(int tier, int day) {
        return tier(tier) && day(day) ? (int) s.rule(tier, day) : -1;
    }

    public int owing(int day, int what) {
        return day(day) && in(what, 0, 2) ? (int) s.rule(4 + what, day) : -1;
    }

    public long balance(int day) {
        return day(day) ? s.balance(day) : NO_SUCH;
    }

    public long part(int day, int tier) {
        return day(day) && in(tier, 0, s.tiers.size() + 2) ? s.part(day, tier) : NO_SUCH;
    }

    public long product(int day) {
        return day(day) ? s.credit(day) - s.debt(day) : NO_SUCH;
    }

    public long products(int period, int what) {
        if (!period(period) || !in(what, 0, 1)) {
            return NO_SUCH;
        }
        long sum = 0;
        for (int d = period * s.p; d < period * s.p + s.p; d++) {
            sum += what == 0 ? s.credit(d) : s.debt(d);
        }
        return sum;
    }

    public long fresh(int period) {
        return period(period) ? s.interest(period) : NO_SUCH;
    }

    public long booked(int period) {
        return period(period) ? s.booked(period) : NO_SUCH;
    }

    public long wrong(int period) {
        if (!period(period)) {
            return NO_SUCH;
        }
        return period < s.closed ? s.interest(period) - s.booked(period) : 0;
    }

    public int compounds(int period) {
        return period(period) ? s.compounding(period) : -1;
    }

    public long page(int period, int what) {
        if (!period(period) || !in(what, 0, 7)) {
            return NO_SUCH;
        }
        long[] a = new long[8];
        for (Entry e : s.entries) {
            if (e.page < period) {
                a[0] += e.amount;
                a[6] += e.amount;
            }
            if (e.page == period) {
                int row = e.sort > 0 ? e.sort + 2 : e.amount > 0 ? 1 : 2;
                a[row] += row == 2 ? -e.amount : e.amount;
                a[6] += e.amount;
                a[7]++;
            }
        }
        return a[what];
    }

    public int line(int period, int i) {
        if (!period(period) || i < 0) {
            return -2;
        }
        List<Integer> page = onPage(period);
        return i < page.size() ? page.get(i) : -1;
    }

    private List<Integer> stepDays() {
        List<Integer> found = new ArrayList<>();
        for (int d = 1; d < s.days(); d++) {
            if (s.balance(d) != s.balance(d - 1)) {
                found.add(d);
            }
        }
        return found;
    }

    public int steps() {
        return none() ? -2 : stepDays().size();
    }

    public int step(int i) {
        if (none() || i < 0) {
            return -2;
        }
        return i < stepDays().size() ? stepDays().get(i) : -1;
    }

    public long lowest() {
        if (none()) {
            return NO_SUCH;
        }
        long low = Long.MAX_VALUE;
        for (int d = 0; d < s.days(); d++) {
            low = Math.min(low, s.balance(d));
        }
        return low;
    }

    public int beyond() {
        if (none()) {
            return -2;
        }
        int met = 0;
        for (int d = 0; d < s.days(); d++) {
            if (-s.balance(d) > s.rule(6, d)) {
                met++;
            }
        }
        return met;
    }

    public int firstBeyond() {
        if (none()) {
            return -2;
        }
        for (int d = 0; d < s.days(); d++) {
            if (-s.balance(d) > s.rule(6, d)) {
                return d;
            }
        }
        return -1;
    }

    public long mean(int period, int what) {
        if (!period(period) || !in(what, 0, 1)) {
            return NO_SUCH;
        }
        long sum = 0;
        for (int d = period * s.p; d < period * s.p + s.p; d++) {
            sum += s.balance(d);
        }
        long g = BigInteger.valueOf(sum).gcd(BigInteger.valueOf(s.p)).longValueExact();
        return what == 0 ? sum / g : s.p / g;
    }

    // ---- what would be

    public long all() {
        return none() ? NO_SUCH : s.all();
    }

    private State without(int entry) {
        State t = s.copy();
        t.entries.remove(entry);
        return t;
    }

    private State with(int day, long amount) {
        State t = s.copy();
        t.money(day, amount);
        return t;
    }

    private State onDay(int entry, int day) {
        State t = s.copy();
        Entry e = t.entries.get(entry);
        t.entries.set(entry, new Entry(e.sort, e.amount, day, e.page, e.period, e.turned));
        return t;
    }

    public long brought(int entry) {
        return has(entry) ? s.all() - without(entry).all() : NO_SUCH;
    }

    public long moved(int entry, int day) {
        return has(entry) && day(day) ? onDay(entry, day).all() - s.all() : NO_SUCH;
    }

    public int bestDay(int entry) {
        if (!has(entry)) {
            return -2;
        }
        int best = 0;
        long most = onDay(entry, 0).all();
        for (int d = 1; d < s.days(); d++) {
            long here = onDay(entry, d).all();
            if (here > most) {
                most = here;
                best = d;
            }
        }
        return best;
    }

    public long late(int day, int amount) {
        if (!day(day) || !in(amount, -99999, 99999)) {
            return NO_SUCH;
        }
        State t = with(day, amount);
        long sum = 0;
        for (int i = 0; i < t.closed; i++) {
            sum += t.interest(i) - t.booked(i);
        }
        return sum;
    }

    public int touched(int day, int amount) {
        if (!day(day) || !in(amount, -99999, 99999)) {
            return -2;
        }
        State t = with(day, amount);
        for (int i = 0; i < t.closed; i++) {
            if (t.interest(i) - t.booked(i) != wrong(i)) {
                return i;
            }
        }
        return -1;
    }

    public long tilted(int tier, int more) {
        if (!tier(tier) || !in(more, -5000, 5000)) {
            return NO_SUCH;
        }
        State t = s.copy();
        t.tiltTier = tier;
        t.tilt = more;
        return t.all() - s.all();
    }

    public long limited(int limit) {
        if (none() || !in(limit, 0, 99999)) {
            return NO_SUCH;
        }
        State t = s.copy();
        t.limitForAll = limit;
        return t.all() - s.all();
    }

    public int most(int day) {
        if (!day(day)) {
            return -2;
        }
        for (int x = 999999; x >= 0; x -= x > 100 ? x / 100 : 1) {
            if (fits(day, -x)) {
                int more = x;
                while (more < 999999 && fits(day, -more - 1)) {
                    more++;
                }
                return more;
            }
        }
        return -1;
    }

    private boolean fits(int day, long amount) {
        for (int d = day; d < s.days(); d++) {
            if (-(s.balance(d) + amount) > s.rule(6, d)) {
                return false;
            }
        }
        return true;
    }

    public int least(int day) {
        if (!day(day)) {
            return -2;
        }
        if (!fits(day, 999999)) {
            return -1;
        }
        long lack = 0;
        for (int d = day; d < s.days(); d++) {
            lack = Math.max(lack, -s.balance(d) - s.rule(6, d));
        }
        return (int) lack;
    }

    /** By halves, as ScanTest finds that ALL never falls as an amount grows. */
    public int needs(int day, int n) {
        if (!day(day) || !in(n, 1, 99999)) {
            return -2;
        }
        long goal = s.all() + n;
        int low = 1;
        int high = 100000;
        while (low < high) {
            int mid = (low + high) / 2;
            if (with(day, mid).all() >= goal) {
                high = mid;
            } else {
                low = mid + 1;
            }
        }
        return low > 99999 ? -1 : low;
    }

    int needsByScan(int day, int n) {
        for (int amount = 1; amount <= 99999; amount++) {
            if (with(day, amount).all() >= s.all() + n) {
                return amount;
            }
        }
        return -1;
    }

    int tiltForByScan(int tier, int n) {
        for (int more = 1; more <= 5000; more++) {
            if (tilted(tier, more) >= n) {
                return more;
            }
        }
        return -1;
    }

    int planByScan(int day, int n) {
        for (int amount = 0; amount <= 99999; amount++) {
            if (planned(day, n, amount) >= 0) {
                return amount;
            }
        }
        return -1;
    }

    public long earned(int period, int tier) {
        if (!period(period) || !tier(tier)) {
            return NO_SUCH;
        }
        long sum = 0;
        for (int d = period * s.p; d < period * s.p + s.p; d++) {
            sum += s.part(d, tier) * s.rule(tier, d);
        }
        return sum;
    }

    public long caused(int entry, int period) {
        return has(entry) && period(period) ? s.interest(period) - without(entry).interest(period) : NO_SUCH;
    }

    public int blame(int period) {
        if (!period(period)) {
            return -2;
        }
        int worst = -1;
        for (int e = 0; e < s.entries.size(); e++) {
            long c = Math.abs(caused(e, period));
            if (c != 0 && (worst < 0 || c > Math.abs(caused(worst, period)))) {
                worst = e;
            }
        }
        return worst;
    }

    public long backdated(int period, int what) {
        if (!period(period) || !in(what, 0, 3)) {
            return NO_SUCH;
        }
        long[] a = new long[4];
        for (int i : onPage(period)) {
            Entry e = s.entries.get(i);
            if (e.value < period * s.p) {
                a[0]++;
                a[1] += e.amount;
            }
            if (e.value >= (period + 1) * s.p) {
                a[2]++;
                a[3] += e.amount;
            }
        }
        return a[what];
    }

    public int reaches(int amount) {
        if (none() || !in(amount, -99999, 99999)) {
            return -2;
        }
        for (int d = 0; d < s.days(); d++) {
            if (s.balance(d) >= amount) {
                return d;
            }
        }
        return -1;
    }

    public int limitFor() {
        if (none()) {
            return -2;
        }
        long low = lowest();
        return low >= 0 ? 0 : low < -99999 ? -1 : (int) -low;
    }

    public int tiltFor(int tier, int n) {
        if (!tier(tier) || !in(n, 1, 99999)) {
            return -2;
        }
        int low = 1;
        int high = 5001;
        while (low < high) {
            int mid = (low + high) / 2;
            if (tilted(tier, mid) >= n) {
                high = mid;
            } else {
                low = mid + 1;
            }
        }
        return low > 5000 ? -1 : low;
    }

    public int bears(int period) {
        if (!period(period)) {
            return -2;
        }
        TreeSet<Integer> days = new TreeSet<>();
        for (Entry e : s.entries) {
            if (e.value < (period + 1) * s.p) {
                days.add(e.value);
            }
        }
        return days.size();
    }

    public int rights() {
        return none() || s.closed == s.n ? -2 : s.copy().rerun();
    }

    public long righted() {
        if (none() || s.closed == s.n) {
            return NO_SUCH;
        }
        State t = s.copy();
        t.rerun();
        return t.total() - s.total();
    }

    public long settled() {
        return none() ? NO_SUCH : s.settled();
    }

    public long compounded(int k) {
        return none() || !in(k, 1, 4) ? NO_SUCH : made(k).settled() - s.settled();
    }

    public long ideal(int period) {
        if (!period(period)) {
            return NO_SUCH;
        }
        State t = s.copy();
        t.entries.clear();
        for (int i = 0; i < s.entries.size(); i++) {
            if (s.entries.get(i).sort == 0 && !s.turnedBack(i)) {
                t.entries.add(s.entries.get(i));
            }
        }
        t.closed = 0;
        for (int i = 0; i < period; i++) {
            t.close();
        }
        return t.interest(period);
    }

    public long planned(int day, int n, int amount) {
        if (none() || s.closed == s.n || !day(day) || !in(n, 1, 8) || !in(amount, 0, 99999)
            || !day(day + (n - 1) * s.p)) {
            return NO_SUCH;
        }
        State t = s.copy();
        for (int i = 0; i < n; i++) {
            if (amount > 0) {
                t.money(day + i * s.p, amount);
            }
        }
        return t.settled();
    }

    public int plan(int day, int n) {
        if (planned(day, n, 0) == NO_SUCH) {
            return -2;
        }
        int low = 0;
        int high = 100000;
        while (low < high) {
            int mid = (low + high) / 2;
            if (planned(day, n, mid) >= 0) {
                high = mid;
            } else {
                low = mid + 1;
            }
        }
        return low > 99999 ? -1 : low;
    }

    // ---- what is paid off

    private long[][] paidOff() {
        long[][] rows = new long[s.entries.size()][];
        List<Integer> above = new ArrayList<>();
        List<Integer> below = new ArrayList<>();
        for (int i : byValue()) {
            long a = s.entries.get(i).amount;
            rows[i] = new long[] {Math.abs(a), -1};
            if (a > 0) {
                above.add(i);
            } else if (a < 0) {
                below.add(i);
            }
        }
        while (!above.isEmpty() && !below.isEmpty()) {
            int a = above.get(0);
            int b = below.get(0);
            long less = Math.min(rows[a][0], rows[b][0]);
            long later = Math.max(s.entries.get(a).value, s.entries.get(b).value);
            rows[a][0] -= less;
            rows[b][0] -= less;
            if (rows[a][0] == 0) {
                rows[a][1] = later;
                above.remove(0);
            }
            if (rows[b][0] == 0) {
                rows[b][1] = later;
                below.remove(0);
            }
        }
        return rows;
    }

    public long left(int entry) {
        return has(entry) ? paidOff()[entry][0] : NO_SUCH;
    }

    public int gone(int entry) {
        return has(entry) ? (int) paidOff()[entry][1] : -2;
    }

    public int oldest() {
        if (none()) {
            return -2;
        }
        long[][] rows = paidOff();
        for (int i : byValue()) {
            if (s.entries.get(i).amount < 0 && rows[i][0] > 0) {
                return i;
            }
        }
        return -1;
    }

    // ---- acts

    private void act(String kind, int a, int b, int c) {
        acts.add(new Op(kind, a, b, c));
        make();
    }

    private int money(int day, int amount, int sign) {
        if (!day(day) || !in(amount, 1, 99999)) {
            return -2;
        }
        if (s.closed == s.n || acts.size() == 20) {
            return -5;
        }
        act("money", day, sign * amount, 0);
        return s.entries.size() - 1;
    }

    public int pay(int day, int amount) {
        return money(day, amount, 1);
    }

    public int draw(int day, int amount) {
        return money(day, amount, -1);
    }

    public int reverse(int entry) {
        if (!has(entry)) {
            return -2;
        }
        if (s.entries.get(entry).sort != 0 || s.turnedBack(entry) || s.closed == s.n || acts.size() == 20) {
            return -5;
        }
        int nth = 0;
        for (Entry e : s.entries.subList(0, entry)) {
            nth += e.sort == 0 ? 1 : 0;
        }
        act("reverse", nth, 0, 0);
        return s.entries.size() - 1;
    }

    public int change(int day, int which, int v) {
        if (!day(day) || !tier(which) && !in(which, 4, 6) || !in(v, 0, which == 6 ? 99999 : 5000)) {
            return -2;
        }
        if (acts.size() == 20) {
            return -5;
        }
        act("from", day, which, v);
        return s.changes.size();
    }

    public int close() {
        if (none()) {
            return -2;
        }
        if (s.closed == s.n || acts.size() == 20) {
            return -5;
        }
        act("close", 0, 0, 0);
        return s.closed - 1;
    }

    public int rerun() {
        if (none()) {
            return -2;
        }
        if (s.closed == s.n || acts.size() == 20) {
            return -5;
        }
        int had = s.entries.size();
        act("rerun", 0, 0, 0);
        return s.entries.size() - had;
    }

    public int image(int k) {
        if (!in(k, 0, 2) || none()) {
            return -2;
        }
        images.set(k, List.of(List.copyOf(lines), List.copyOf(acts)));
        return 0;
    }

    public int back(int k) {
        if (!in(k, 0, 2)) {
            return -2;
        }
        if (images.get(k).isEmpty()) {
            return -6;
        }
        lines = new ArrayList<>(images.get(k).get(0));
        acts = new ArrayList<>(images.get(k).get(1));
        make();
        return 0;
    }

    public int undo() {
        if (none()) {
            return -2;
        }
        if (acts.isEmpty()) {
            return -5;
        }
        acts.remove(acts.size() - 1);
        make();
        return acts.size();
    }

    public int anew() {
        if (none()) {
            return -2;
        }
        int had = acts.size();
        acts.clear();
        make();
        return had;
    }
}
