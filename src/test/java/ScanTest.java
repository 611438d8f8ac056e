import java.util.Random;

/** The least that does, found by trying all amounts and rates one by one. */
public final class ScanTest {
    private static final String[] TEXTS = {
        "book days 3 periods 2 compound 1;tier 4000 to 5000;tier 900 to 20000;debit 4900 over 5000 limit 30;draw 1 40000;pay 3 100;",
        "book days 4 periods 2 compound 2;tier 10;debit 3000 over 5000 limit 20000;draw 0 60000;close;",
        "book days 2 periods 3 compound 1;tier 5000 to 300;draw 0 99999;draw 3 99999;close;pay 1 77777;",
        "book days 5 periods 1 compound 3;tier 0 to 1000;tier 5000;pay 4 700;draw 0 5;",
    };

    public static void main(String[] args) {
        Random random = new Random(7);
        for (String text : TEXTS) {
            for (int turn = 0; turn < 3; turn++) {
                scan(text, random);
            }
        }
        Check.finish("ScanTest");
    }

    private static void scan(String text, Random random) {
        ValueDays x = Check.told(text);
        PlainBook plain = new PlainBook();
        for (int from = 0; from < text.length(); from += 20) {
            int[] n = new int[5];
            for (int i = 0; i < 20; i++) {
                n[i / 4] = n[i / 4] << 8 | (from + i < text.length() ? text.charAt(from + i) : ' ');
            }
            plain.feed(n[0], n[1], n[2], n[3], n[4]);
        }
        plain.book();
        int day = random.nextInt(x.count(0) * x.count(1));
        int more = 1 + random.nextInt(random.nextBoolean() ? 10 : 300);
        Check.due(text + " needs(" + day + ", " + more + ")", x.needs(day, more), plain.needsByScan(day, more));
        int few = 1 + random.nextInt(4);
        Check.due(text + " tiltFor(0, " + few + ")", x.tiltFor(0, few), plain.tiltForByScan(0, few));
        int early = random.nextInt(x.count(0));
        int n = 1 + random.nextInt(x.count(1));
        Check.due(text + " plan(" + early + ", " + n + ")", x.plan(early, n), plain.planByScan(early, n));
    }
}
