/** Promises 32 to 36: type, wipe, fault, may, rule. */
public final class TextsTest {
    public static void main(String[] args) {
        type();
        faults();
        longTexts();
        rules();
        wrong();
        Check.end();
    }

    private static AirParted of(String text) {
        AirParted x = new AirParted();
        for (int i = 0; i < text.length(); i++) {
            Check.due("32: byte " + i + " of " + text, x.type(text.charAt(i)), i + 1);
        }
        return x;
    }

    private static void type() {
        AirParted x = new AirParted();
        for (int b : new int[] {-1, 256, Integer.MIN_VALUE, Integer.MAX_VALUE}) {
            Check.due("32: type(" + b + ")", x.type(b), AirParted.BAD);
        }
        Check.due("33: wipe of none", x.wipe(), 0);
        Check.due("32: byte 0", x.type(0), 1);
        Check.due("32: byte 255", x.type(255), 2);
        Check.due("34: byte 0 cannot begin", x.fault(), 0);
        for (int i = 3; i <= 120; i++) {
            Check.due("32: byte", x.type('+'), i);
        }
        Check.due("32: one more", x.type('+'), AirParted.FULL);
        Check.due("32: a wrong one more", x.type(256), AirParted.BAD);
        Check.due("32: how many", x.count(3), 120);
        Check.due("33: wipe", x.wipe(), 120);
        Check.due("33: none is left", x.count(3), 0);
        Check.due("34: of an empty one", x.fault(), 0);
        Check.due("32: from the first again", x.type('+'), 1);
    }

    private static void fault(String text, int due) {
        Check.due("34: fault of " + text, of(text).fault(), due);
    }

    private static void faults() {
        String[] whole = {"+0:0", "-*:11", "+5:00-11", "-3:1@0", "+3:0-5@10-20", "+1:7-7@99-99", "+1:05@5-05;-2:10", "+*:0@00-99;+*:0"};
        for (String text : whole) {
            fault(text, AirParted.NONE);
            for (int cut = 0; cut < 3; cut++) {
                fault(text.substring(0, cut), cut);
            }
            fault(text.substring(0, 3), 3);
            fault(text + ";", text.length() + 1);
            fault(text + "x", text.length());
            fault(text + " ", text.length());
            fault(text + ";;", text.length() + 1);
        }
        fault("x", 0);
        fault("0", 0);
        fault("+6:1", 1);
        fault("++", 1);
        fault("+00:1", 2);
        fault("+0-1", 2);
        fault("+0:x", 3);
        fault("+0:-1", 3);
        fault("+0:12", 3);
        fault("+0:99-3", 3);
        fault("+0:111", 5);
        fault("+0:123", 3);
        fault("+0:1-", 5);
        fault("+0:1-x", 5);
        fault("+0:1-12", 5);
        fault("+0:2-1", 5);
        fault("+0:2-1x", 5);
        fault("+0:2-11", AirParted.NONE);
        fault("+0:10-9", 6);
        fault("+0:10-011", 6);
        fault("+0:1-011", 7);
        fault("+0:1-2-3", 6);
        fault("+0:1@", 5);
        fault("+0:1@x", 5);
        fault("+0:1@100", 7);
        fault("+0:1@5-4", 7);
        fault("+0:1@5-", 7);
        fault("+0:1@50-49", 8);
        fault("+0:1@5-100", 9);
        fault("+0:1@1-2-3", 8);
        fault("+0:1@1@2", 6);
        fault("+0:1;", 5);
        fault("+0:1;x", 5);
        fault("+0:1;+0:12", 8);
        fault(";+0:1", 0);
    }

    private static void longTexts() {
        StringBuilder b = new StringBuilder("-*:0");
        for (int r = 1; r < 24; r++) {
            b.append(";+0:1");
        }
        AirParted x = of(b.toString());
        Check.due("34: 24 rules", x.fault(), AirParted.NONE);
        Check.due("36: the last of them", x.rule(0, 1, 50), 23);
        Check.due("36: the first of them", x.rule(0, 0, 50), 0);
        Check.due("32: the last byte", x.type(';'), 120);
        Check.due("34: behind the last byte", x.fault(), 120);
        Check.due("36: with a fault", x.rule(0, 1, 50), AirParted.NONE);
    }

    private static void rules() {
        AirParted x = of("+3:2-5@10-20;-*:4;+2:4@99;+*:11@0-0");
        Check.due("35: as told", x.may(3, 2, 10), 1);
        Check.due("36: as told", x.rule(3, 2, 10), 0);
        Check.due("35: the last slot", x.may(3, 5, 20), 1);
        Check.due("35: the slot before", x.may(3, 1, 10), 0);
        Check.due("35: the slot behind", x.may(3, 6, 10), 0);
        Check.due("35: the day before", x.may(3, 2, 9), 0);
        Check.due("35: the day behind", x.may(3, 2, 21), 0);
        Check.due("36: none", x.rule(3, 2, 21), AirParted.NONE);
        Check.due("35: another kind", x.may(2, 2, 10), 0);
        Check.due("36: another kind", x.rule(2, 2, 10), AirParted.NONE);
        Check.due("35: the last rule tells", x.may(3, 4, 15), 0);
        Check.due("36: the last rule tells", x.rule(3, 4, 15), 1);
        Check.due("36: on every day", x.rule(5, 4, 99), 1);
        Check.due("36: the later one", x.rule(2, 4, 99), 2);
        Check.due("35: the later one", x.may(2, 4, 99), 1);
        Check.due("36: the later one on its day alone", x.rule(2, 4, 98), 1);
        for (int kind = 0; kind < 6; kind++) {
            Check.due("35: all kinds", x.may(kind, 11, 0), 1);
            Check.due("35: all kinds, the next day", x.may(kind, 11, 1), 0);
        }
        x.type('x');
        Check.due("35: with a fault", x.may(3, 2, 10), 0);
        Check.due("36: with a fault", x.rule(3, 2, 10), AirParted.NONE);
        x.wipe();
        Check.due("35: of an empty one", x.may(3, 2, 10), 0);
        Check.due("36: of an empty one", x.rule(3, 2, 10), AirParted.NONE);
    }

    private static void wrong() {
        AirParted x = of("+*:0-11");
        int[][] bad = {{-1, 0, 0}, {6, 0, 0}, {0, -1, 0}, {0, 12, 0}, {0, 0, -1}, {0, 0, 100}};
        for (int[] b : bad) {
            Check.due("35: wrong", x.may(b[0], b[1], b[2]), AirParted.BAD);
            Check.due("36: wrong", x.rule(b[0], b[1], b[2]), AirParted.BAD);
        }
        Check.due("35: the last of all", x.may(5, 11, 99), 1);
    }
}
