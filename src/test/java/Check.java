/** What the tests share: a book told by a text, answers held against what is due, and the end of a test. */
final class Check {
    static final long NO_SUCH = Long.MIN_VALUE;
    private static int wrong = 0;
    private static int asked = 0;
    private static String where = "";

    private Check() {
    }

    static void due(String call, long got, long want) {
        asked++;
        if (got != want) {
            wrong++;
            if (wrong <= 50) {
                System.out.println(where + call + " answered " + got + ", due is " + want);
            }
        }
    }

    /** What stands ahead of each answer that is not as due. */
    static void within(String test) {
        where = test;
    }

    static int asked() {
        return asked;
    }

    static boolean allRight() {
        return wrong == 0;
    }

    /** Puts a text behind the tape: its last piece is filled up with blanks, which end() takes off again. */
    static void feed(ValueDays x, String text) {
        int had = x.count(9);
        for (int from = 0; from < text.length(); from += 20) {
            int[] n = new int[5];
            for (int i = 0; i < 20; i++) {
                int b = from + i < text.length() ? text.charAt(from + i) & 255 : ' ';
                n[i / 4] = n[i / 4] << 8 | b;
            }
            if (x.feed(n[0], n[1], n[2], n[3], n[4]) < 0) {
                due("room on the tape for " + text, 0, 1);
            }
        }
        x.end(had + text.length());
    }

    static int tell(ValueDays x, String text) {
        feed(x, text);
        return x.book();
    }

    /** A new object with the book of a text that must be without fault. */
    static ValueDays told(String text) {
        ValueDays x = new ValueDays();
        int lines = tell(x, text);
        if (lines <= 0) {
            due("book() of " + text + " at " + x.fault(1), lines, 1);
        }
        return x;
    }

    static void fault(String text, int kind, int place) {
        ValueDays x = new ValueDays();
        due("book() of " + text, tell(x, text), -4);
        due("fault(0) of " + text, x.fault(0), kind);
        due("fault(1) of " + text, x.fault(1), place);
    }

    /** A text whose fault is at the first byte of its second half. */
    static void refused(String good, String bad, int kind) {
        fault(good + bad, kind, good.length());
    }

    static void taken(String text, int lines) {
        ValueDays x = new ValueDays();
        due("book() of " + text, tell(x, text), lines);
        due("fault(0) of " + text, x.fault(0), 0);
    }

    /** All that is told is as it was told before. */
    static void same(String call, ValueDays x, String before) {
        due(call + ": all is as before", Picture.of(x).equals(before) ? 1 : 0, 1);
    }

    /** No such arguments: these stand for all that lie outside bounds. */
    static int[] outside(int lowest, int highest) {
        return new int[] {lowest - 1, highest + 1, Integer.MIN_VALUE, Integer.MAX_VALUE};
    }

    static void finish(String name) {
        System.out.println(name + ": " + asked + " answers, " + wrong + " not as due");
        if (wrong != 0 || asked == 0) {
            System.exit(1);
        }
    }
}
