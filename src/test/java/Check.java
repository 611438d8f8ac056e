/** What the tests share: a book told by a text, answers held against what is due, and the end of a test. */
final class Check {
    static final long NO_SUCH = Long.MIN_VALUE;
    private static int wrong = 0;
    private static int asked = 0;

    private Check() {
    }

    static void due(String call, long got, long want) {
        asked++;
        if (got != want) {
            wrong++;
            if (wrong <= 50) {
                System.out.println(call + " answered " + got + ", due is " + want);
            }
        }
    }

    static boolean allRight() {
        return wrong == 0;
    }

    /** Puts a text behind the tape: its last piece is filled up with blanks, which end() takes off again. */
    static void feed(ValueDays x, String text) {
        int had = x.count(9);
        for (int from = 0; from < text.length(); from += 20) {
            int[] n = new int[5];
            for (int i = 0; i < 20; i++) {
                int b = from + i < text.length() ? text.charAt(from + i) & 255 : ' ';
                n[i / 4] = n[i / 4] << 8 | b;
            }
            x.feed(n[0], n[1], n[2], n[3], n[4]);
        }
        x.end(had + text.length());
    }

    static int tell(ValueDays x, String text) {
        feed(x, text);
        return x.book();
    }

    /** A new object with the book of a text that must be without fault. */
    static ValueDays told(String text) {
        ValueDays x = new ValueDays();
        int lines = tell(x, text);
        if (lines <= 0) {
            due("book() of " + text + " at " + x.fault(1), lines, 1);
        }
        return x;
    }

    static void fault(String text, int kind, int place) {
        ValueDays x = new ValueDays();
        due("book() of " + text, tell(x, text), -4);
        due("fault(0) of " + text, x.fault(0), kind);
        due("fault(1) of " + text, x.fault(1), place);
    }

    static void finish(String name) {
        System.out.println(name + ": " + asked + " answers, " + wrong + " not as due");
        if (wrong != 0 || asked == 0) {
            System.exit(1);
        }
    }
}
