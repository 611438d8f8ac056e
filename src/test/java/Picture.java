/** All that an object tells of its book, in one text: two of them are alike if nothing has happened between. */
final class Picture {
    private final ValueDays x;
    private final StringBuilder text = new StringBuilder();
    private final int days;
    private final int periods;
    private final int tiers;
    private final int entries;

    private Picture(ValueDays x) {
        this.x = x;
        days = x.count(0) * x.count(1);
        periods = x.count(1);
        tiers = x.count(3);
        entries = x.count(5);
    }

    static String of(ValueDays x) {
        Picture picture = new Picture(x);
        picture.addCounts();
        picture.addDays();
        picture.addPeriods();
        picture.addEntries();
        picture.addAnswers();
        return picture.text.toString();
    }

    private void add(long... answers) {
        for (long answer : answers) {
            text.append(answer).append(' ');
        }
        text.append('\n');
    }

    private void addCounts() {
        for (int what = 0; what < 10; what++) {
            add(x.count(what));
        }
    }

    private void addDays() {
        for (int day = 0; day < days; day++) {
            add(x.balance(day), x.product(day), x.owing(day, 0), x.owing(day, 1), x.owing(day, 2), x.most(day), x.least(day), x.needs(day, 1),
                x.late(day, 1000), x.late(day, -1000), x.touched(day, 1000), x.plan(day, 1), x.planned(day, 1, 1000), x.step(day));
            for (int tier = 0; tier < tiers + 3; tier++) {
                add(x.part(day, tier), x.rate(tier, day));
            }
        }
    }

    private void addPeriods() {
        for (int period = 0; period < periods; period++) {
            add(x.products(period, 0), x.products(period, 1), x.fresh(period), x.booked(period), x.wrong(period), x.compounds(period),
                x.mean(period, 0), x.mean(period, 1), x.blame(period), x.bears(period), x.ideal(period));
            for (int i = 0; i < 8; i++) {
                add(x.page(period, i), x.line(period, i), x.earned(period, i), x.backdated(period, i % 4));
            }
        }
    }

    private void addEntries() {
        for (int entry = 0; entry < entries; entry++) {
            for (int what = 0; what < 6; what++) {
                add(x.entry(entry, what));
            }
            add(x.sorted(entry), x.brought(entry), x.moved(entry, 0), x.moved(entry, days - 1), x.bestDay(entry), x.left(entry), x.gone(entry));
            for (int period = 0; period < periods; period++) {
                add(x.caused(entry, period));
            }
        }
    }

    private void addAnswers() {
        add(x.steps(), x.lowest(), x.beyond(), x.firstBeyond(), x.all(), x.limited(0), x.reaches(1), x.limitFor(), x.rights(), x.righted(),
            x.settled(), x.oldest());
        for (int i = 0; i < 5; i++) {
            add(x.tilted(i, 100), x.tiltFor(i, 1), x.compounded(i));
        }
    }
}
