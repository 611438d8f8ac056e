import java.lang.reflect.Method;
import java.util.ArrayList;
import java.util.List;
import java.util.Random;

/**
 * Long random runs on the class and on PlainBook: every answer is the same. Every third run is on full books: many
 * periods closed, entries for days long gone, reruns between them, so that there are many corrections.
 */
public final class ModelTest {
    private static final String[] ACTS = {"pay", "draw", "pay", "draw", "reverse", "change", "close", "rerun"};
    private static final String[] OTHERS = {"image", "back", "undo", "anew", "feed", "end", "book"};
    private final Random random;
    private final ValueDays x = new ValueDays();
    private final PlainBook plain = new PlainBook();
    private final List<String> told = new ArrayList<>();
    private int calls = 0;
    private int p = 2;
    private int n = 1;
    private boolean full = false;
    private boolean rerunNext = false;

    private ModelTest(long seed) {
        random = new Random(seed);
        full = seed % 3 == 0;
    }

    public static void main(String[] args) throws Exception {
        long first = args.length > 0 ? Long.parseLong(args[0]) : 1;
        long runs = args.length > 1 ? Long.parseLong(args[1]) : 400;
        for (long seed = first; seed < first + runs && Check.allRight(); seed++) {
            new ModelTest(seed).run(seed);
        }
        Check.finish("ModelTest");
    }

    private void run(long seed) throws Exception {
        List<Method> asks = new ArrayList<>();
        for (Method m : PlainBook.class.getDeclaredMethods()) {
            if (java.lang.reflect.Modifier.isPublic(m.getModifiers()) && !isOneOf(m.getName(), ACTS) && !isOneOf(m.getName(), OTHERS)) {
                asks.add(m);
            }
        }
        asks.sort(java.util.Comparator.comparing(Method::getName));
        tell();
        while (calls < 512 && Check.allRight()) {
            int dice = random.nextInt(100);
            // Without a book there is little to ask: another one comes soon.
            if (dice < (plain.count(8) == 0 ? 15 : 1)) {
                tell();
            } else if (dice < 4) {
                call(named(OTHERS[random.nextInt(OTHERS.length)]));
            } else if (dice < 14) {
                callAct();
            } else {
                call(asks.get(random.nextInt(asks.size())));
            }
        }
        if (!Check.allRight()) {
            System.out.println("seed " + seed + ":");
            told.forEach(System.out::println);
        }
    }

    /** On full books a rerun comes behind every act that may have made closed periods wrong. */
    private void callAct() throws Exception {
        rerunNext = full && !rerunNext;
        call(named(full && !rerunNext ? "rerun" : ACTS[random.nextInt(ACTS.length - (full ? 2 : 0))]));
    }

    private static boolean isOneOf(String name, String[] names) {
        return List.of(names).contains(name);
    }

    private static Method named(String name) {
        for (Method m : PlainBook.class.getDeclaredMethods()) {
            if (m.getName().equals(name) && java.lang.reflect.Modifier.isPublic(m.getModifiers())) {
                return m;
            }
        }
        throw new IllegalStateException(name);
    }

    private void call(Method m) throws Exception {
        Object[] with = new Object[m.getParameterCount()];
        for (int i = 0; i < with.length; i++) {
            with[i] = argument(m.getName(), i);
        }
        hold(m, with);
    }

    private void hold(Method m, Object[] with) throws Exception {
        Method real = ValueDays.class.getMethod(m.getName(), m.getParameterTypes());
        long want = ((Number) m.invoke(plain, with)).longValue();
        long got = ((Number) real.invoke(x, with)).longValue();
        calls++;
        String shown = m.getName() + java.util.Arrays.toString(with);
        told.add(shown + " = " + got);
        Check.due(shown, got, want);
    }

    // ---- arguments

    private int argument(String name, int i) {
        if (random.nextInt(25) == 0) {
            int[] odd = {-1, -2, Integer.MIN_VALUE, Integer.MAX_VALUE, 320, 100000, -100000, 1000, 5001, -5001, 9};
            return odd[random.nextInt(odd.length)];
        }
        String key = name + i;
        switch (key) {
            case "feed0": case "feed1": case "feed2": case "feed3": case "feed4": return random.nextInt();
            case "end0": return random.nextInt(60);
            case "fault0": return random.nextInt(3);
            case "count0": return random.nextInt(11);
            case "entry1": return random.nextInt(7);
            case "owing1": return random.nextInt(4);
            case "part1": return random.nextInt(8);
            case "page1": return random.nextInt(9);
            case "products1": case "mean1": return random.nextInt(3);
            case "backdated1": return random.nextInt(5);
            case "line1": case "step0": return random.nextInt(6);
            case "image0": case "back0": return random.nextInt(3);
            case "compounded0": return 1 + random.nextInt(4);
            case "planned1": case "plan1": return 1 + random.nextInt(random.nextBoolean() ? 2 : 8);
            case "change1": return random.nextInt(7);
            case "change2": return random.nextInt(4) == 0 ? random.nextInt(100000) : rate();
            case "tilted1": return random.nextInt(10001) - 5000;
            case "needs1": case "tiltFor1": return 1 + random.nextInt(random.nextBoolean() ? 5 : 5000);
            case "limited0": return amount() - 1;
            case "reaches0": case "late1": case "touched1": return amount() * (random.nextBoolean() ? 1 : -1);
            case "planned2": return random.nextInt(5) == 0 ? 0 : amount();
            case "pay1": case "draw1": return amount();
            case "rate0": case "tilted0": case "tiltFor0": case "earned1": return random.nextInt(random.nextInt(4) == 0 ? 5 : 2);
            case "sorted0": case "entry0": case "brought0": case "moved0": case "bestDay0": case "left0": case "gone0":
            case "reverse0": case "caused0": return random.nextInt(Math.max(1, plain.count(5) + 1));
            case "products0": case "fresh0": case "booked0": case "wrong0": case "compounds0": case "page0": case "line0":
            case "mean0": case "earned0": case "caused1": case "blame0": case "backdated0": case "bears0": case "ideal0":
                return random.nextInt(Math.max(1, n) + (random.nextInt(10) == 0 ? 1 : 0));
            case "rate1": case "owing0": case "balance0": case "part0": case "product0": case "moved1": case "late0":
            case "touched0": case "most0": case "least0": case "needs0": case "planned0": case "plan0": case "pay0":
            case "draw0": case "change0":
                return day();
            default: throw new IllegalStateException(key);
        }
    }

    private int day() {
        int days = Math.max(2, p * n);
        return random.nextInt(20) == 0 ? days : random.nextInt(days);
    }

    private int amount() {
        switch (random.nextInt(6)) {
            case 0: return 1 + random.nextInt(9);
            case 1: return 100 * (1 + random.nextInt(30));
            case 2: return 1000 * (1 + random.nextInt(99));
            case 3: return 1 + random.nextInt(3000);
            default: return 1 + random.nextInt(99999);
        }
    }

    private int rate() {
        switch (random.nextInt(4)) {
            case 0: return 0;
            case 1: return 100 * random.nextInt(51);
            case 2: return 1800;
            default: return random.nextInt(5001);
        }
    }

    // ---- texts

    private void tell() throws Exception {
        String text = full ? fullText() : text();
        if (random.nextInt(full ? 10 : 3) == 0) {
            text = spoiled(text);
        }
        if (text.length() > 900) {
            text = text.substring(0, 900);
        }
        int had = plain.count(9);
        if (had > 0) {
            hold(named("end"), new Object[] {0});
        }
        for (int from = 0; from < text.length(); from += 20) {
            Object[] with = new Object[5];
            for (int i = 0; i < 5; i++) {
                int v = 0;
                for (int j = 0; j < 4; j++) {
                    int at = from + i * 4 + j;
                    v = v << 8 | (at < text.length() ? text.charAt(at) & 255 : ' ');
                }
                with[i] = v;
            }
            hold(named("feed"), with);
        }
        told.add("text " + text);
        hold(named("end"), new Object[] {text.length()});
        hold(named("book"), new Object[0]);
        hold(named("fault"), new Object[] {0});
        hold(named("fault"), new Object[] {1});
        p = plain.count(0);
        n = plain.count(1);
    }

    private String text() {
        boolean large = random.nextInt(4) == 0;
        p = large ? 2 + random.nextInt(39) : 2 + random.nextInt(8);
        n = 1 + random.nextInt(large ? 8 : 5);
        StringBuilder b = new StringBuilder();
        b.append("book days ").append(p).append(" periods ").append(n).append(" compound ").append(1 + random.nextInt(4)).append(";");
        int tiers = random.nextInt(5);
        int told = 0;
        int top = 0;
        boolean debit = random.nextInt(4) == 0;
        int lines = random.nextInt(25);
        boolean topless = false;
        int closes = 0;
        int reruns = 0;
        int moneys = 0;
        int changes = 0;
        for (int i = 0; i < lines + tiers; i++) {
            int dice = random.nextInt(12);
            if (told < tiers && !topless && top < 90000 && random.nextInt(2) == 0) {
                int more = 1 + random.nextInt(random.nextBoolean() ? 3000 : 20000);
                topless = random.nextInt(4) == 0;
                b.append("tier ").append(rate());
                if (!topless) {
                    top = Math.min(99999, top + more);
                    b.append(" to ").append(top);
                }
                b.append(";");
                told++;
            } else if (dice == 0 && !debit) {
                debit = true;
                b.append("debit ").append(rate()).append(" over ").append(rate()).append(" limit ").append(amount() - 1).append(";");
            } else if (dice < 4 && changes < 12) {
                changes++;
                int which = random.nextInt(told > 0 ? 4 : 3);
                b.append("from ").append(random.nextInt(p * n));
                b.append(which == 0 ? " debit " : which == 1 ? " over " : which == 2 ? " limit " : " tier " + random.nextInt(told) + " ");
                b.append(which == 2 ? amount() - 1 : rate()).append(";");
            } else if (dice < 9 && closes < n && moneys < 30) {
                moneys++;
                b.append(random.nextBoolean() ? "pay " : "draw ").append(random.nextInt(p * n)).append(' ').append(amount()).append(";");
            } else if (dice < 10 && closes < n && random.nextInt(closes + 1 == n ? 8 : 2) == 0) {
                closes++;
                b.append("close;");
            } else if (dice == 11 && closes < n && reruns < 6) {
                reruns++;
                b.append("rerun;");
            }
        }
        return b.toString();
    }

    private String fullText() {
        p = 2 + random.nextInt(random.nextBoolean() ? 39 : 9);
        n = 4 + random.nextInt(5);
        StringBuilder b = new StringBuilder();
        b.append("book days ").append(p).append(" periods ").append(n).append(" compound ").append(1 + random.nextInt(4)).append(";");
        int tiers = 1 + random.nextInt(4);
        for (int t = 0; t < tiers; t++) {
            b.append("tier ").append(1000 + random.nextInt(4001));
            b.append(t == 3 && random.nextBoolean() ? "" : " to " + (t * 20000 + 1 + random.nextInt(20000))).append(";");
        }
        b.append("debit ").append(1000 + random.nextInt(4001)).append(" over ").append(1000 + random.nextInt(4001));
        b.append(" limit ").append(random.nextInt(30000)).append(";");
        int closes = random.nextInt(5) == 0 ? n : n - 1;
        int reruns = 0;
        int moneys = 0;
        int closed = 0;
        while (closed < closes && b.length() < 860) {
            int dice = random.nextInt(8);
            if (dice < 4 && moneys < 30) {
                moneys++;
                b.append(random.nextInt(3) > 0 ? "pay " : "draw ").append(random.nextInt(p * n)).append(' ').append(1000 + random.nextInt(99000)).append(";");
            } else if (dice < 5 && reruns < 6) {
                reruns++;
                b.append("rerun;");
            } else if (dice < 6) {
                closed++;
                b.append("close;");
            }
        }
        return b.toString();
    }

    private String spoiled(String text) {
        String[] pieces = {";", " ", "\n", "tier", "debit", "from", "close;", "rerun;", "pay 0 5;", "draw 1 1;", "0", "99999", "100000",
            "5000", "5001", "to", "over", "limit", "book", "A", "$", "\t", "\u00e9", "x", "007", "99999999999999999999", "4294967297"};
        int times = 1 + random.nextInt(2);
        StringBuilder b = new StringBuilder(text);
        for (int i = 0; i < times; i++) {
            int at = random.nextInt(b.length() + 1);
            switch (random.nextInt(5)) {
                case 0: b.insert(at, pieces[random.nextInt(pieces.length)]); break;
                case 1: b.setLength(at); break;
                case 2: b.delete(at, Math.min(b.length(), at + 1 + random.nextInt(4))); break;
                case 3: {
                    int cut = b.lastIndexOf(";", Math.max(0, at - 1)) + 1;
                    b.insert(Math.min(cut, b.length()), pieces[random.nextInt(pieces.length)]);
                    break;
                }
                default: {
                    StringBuilder more = new StringBuilder();
                    String piece = pieces[3 + random.nextInt(7)];
                    if (piece.equals("tier")) {
                        piece = "tier 5;";
                    } else if (piece.equals("from")) {
                        piece = "from 0 limit 5;";
                    } else if (piece.equals("debit")) {
                        piece = "debit 1 over 2 limit 3;";
                    }
                    for (int k = random.nextInt(36); k >= 0; k--) {
                        more.append(piece);
                    }
                    b.append(more);
                    break;
                }
            }
            if (b.length() == 0) {
                return "";
            }
        }
        return b.toString();
    }
}
