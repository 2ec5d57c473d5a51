/** Part 7 of the terms and promises 32 to 36, edge by edge: bytes, faults, rules in force. */
public final class EdgesTextsTest {
    private static final int NONE = AirParted.NONE, BAD = AirParted.BAD, FULL = AirParted.FULL;

    public static void main(String[] args) {
        typeIsBounded();
        hundredAndTwentyBytesAreAll();
        wipeOfNoneAndOfAll();
        faultOfAnEmptyOne();
        faultOfTheSign();
        faultOfTheKind();
        faultOfTheColon();
        faultOfTheSlot();
        faultOfTheSecondSlot();
        faultOfTheDay();
        faultOfTheSecondDay();
        faultBehindARule();
        faultOfAnUnfinishedOne();
        faultOfEachByte();
        faultIsTheFirst();
        faultInFullTexts();
        mayIsBounded();
        ruleIsBounded();
        mayOfNoRule();
        mayWithAFault();
        mayByKinds();
        mayBySlots();
        mayByDays();
        nothingIsLeftOfTextsWiped();
        mayAsTheLastRuleTells();
        rulesAreNumberedFrom0();
        Check.end();
    }

    private static AirParted of(String text) {
        AirParted x = new AirParted();
        States.typed(x, text);
        return x;
    }

    private static void fault(String text, int due) {
        Check.due("34: FAULT of " + text, of(text).fault(), due);
    }

    // ---- promises 32 and 33

    private static void typeIsBounded() {
        Refusal.bounds("32: byte", States::some, (x, v) -> x.type(v), 0, 255);
        Refusal.bounds("32: byte of a new object", States::fresh, (x, v) -> x.type(v), 0, 255);
    }

    private static void hundredAndTwentyBytesAreAll() {
        AirParted x = new AirParted();
        for (int n = 1; n <= 120; n++) {
            Check.due("32: byte " + n, x.type(n), n);
        }
        Check.due("32: one more", x.type(0), FULL);
        Check.due("53: how many", x.count(3), 120);
        Refusal.due("32: FULL", States::full, y -> y.type(';'), FULL);
        Refusal.bad("32: BAD ahead of FULL, above", States::full, y -> y.type(256));
        Refusal.bad("32: BAD ahead of FULL, below", States::full, y -> y.type(-1));
        x.wipe();
        for (int n = 1; n <= 120; n++) {
            Check.due("32: byte " + n + " once more", x.type('+'), n);
        }
        Check.due("32: FULL once more", x.type('+'), FULL);
    }

    private static void wipeOfNoneAndOfAll() {
        AirParted x = new AirParted();
        Check.due("33: of none", x.wipe(), 0);
        x.type(255);
        Check.due("33: of one", x.wipe(), 1);
        Check.due("33: again", x.wipe(), 0);
        AirParted y = States.full();
        Check.due("33: of all", y.wipe(), 120);
        Check.due("33: none is left", y.count(3), 0);
        Check.due("34: of an empty one then", y.fault(), 0);
        Check.due("36: no rule then", y.rule(3, 11, 0), NONE);
        States.typed(y, "+3:1");
        Check.due("36: nothing of the old ones", y.rule(3, 11, 0), NONE);
        Check.due("36: the new one", y.rule(3, 1, 0), 0);
    }

    // ---- promise 34

    private static void faultOfAnEmptyOne() {
        Check.due("34: of an empty one", new AirParted().fault(), 0);
    }

    private static void faultOfTheSign() {
        fault("+0:0", NONE);
        fault("-0:0", NONE);
        fault("0:0", 0);
        fault("*0:0", 0);
        fault(" +0:0", 0);
        fault(";", 0);
    }

    private static void faultOfTheKind() {
        for (int kind = 0; kind <= 9; kind++) {
            fault("+" + kind + ":0", kind <= 5 ? NONE : 1);
        }
        fault("+*:0", NONE);
        fault("+:0", 1);
        fault("+-:0", 1);
        fault("+/:0", 1);
        fault("+00:0", 2);
        fault("+**:0", 2);
        fault("+5*:0", 2);
        fault("+0-5:0", 2);
    }

    private static void faultOfTheColon() {
        fault("+00", 2);
        fault("+0;", 2);
        fault("+0@5", 2);
        fault("+0::0", 3);
    }

    private static void faultOfTheSlot() {
        for (int slot = 0; slot <= 99; slot++) {
            fault("+0:" + slot, slot <= 11 ? NONE : 3);
        }
        for (int slot = 0; slot <= 9; slot++) {
            fault("+0:0" + slot, NONE);
        }
        fault("+0:*", 3);
        fault("+0:@1", 3);
        fault("+0:-1", 3);
        fault("+0:;", 3);
        fault("+0:000", 5);
        fault("+0:011", 5);
        fault("+0:110", 5);
        fault("+0:120", 3);
        fault("+0:/", 3);
    }

    private static void faultOfTheSecondSlot() {
        for (int first = 0; first <= 11; first++) {
            int place = first < 10 ? 5 : 6;
            for (int second = 0; second <= 13; second++) {
                fault("+0:" + first + "-" + second, second >= first && second <= 11 ? NONE : place);
            }
        }
        fault("+0:0-99", 5);
        fault("+0:00-00", NONE);
        fault("+0:01-1", NONE);
        fault("+0:02-01", 6);
        fault("+0:5--6", 5);
        fault("+0:5-*", 5);
        fault("+0:5-@1", 5);
        fault("+0:5-;", 5);
        fault("+0:5-6-7", 6);
        fault("+0:5-111", 7);
        fault("+0:5-4;", 5);
        fault("+0:12-13", 3);
    }

    private static void faultOfTheDay() {
        for (int day = 0; day <= 99; day++) {
            fault("+0:0@" + day, NONE);
        }
        fault("+0:0@00", NONE);
        fault("+0:0@100", 7);
        fault("+0:0@000", 7);
        fault("+0:0@*", 5);
        fault("+0:0@-1", 5);
        fault("+0:0@@1", 5);
        fault("+0:0@;", 5);
        fault("+0:0-1@9", NONE);
        fault("+0:0-1@x", 7);
        fault("+0:0@1:", 6);
    }

    private static void faultOfTheSecondDay() {
        fault("+0:0@0-0", NONE);
        fault("+0:0@0-99", NONE);
        fault("+0:0@99-99", NONE);
        fault("+0:0@99-98", 8);
        fault("+0:0@99-9", 8);
        fault("+0:0@1-0", 7);
        fault("+0:0@1-00", 7);
        fault("+0:0@9-10", NONE);
        fault("+0:0@10-9", 8);
        fault("+0:0@10-09", 8);
        fault("+0:0@10-100", 10);
        fault("+0:0@11-100", 8);
        fault("+0:0@1-2-3", 8);
        fault("+0:0@1-2@3", 8);
        fault("+0:0@1--2", 7);
        fault("+0:0@1-*", 7);
        fault("+0:0@1-;", 7);
    }

    private static void faultBehindARule() {
        fault("+0:0;-1:1", NONE);
        fault("+0:0;;-1:1", 5);
        fault("+0:0 ;-1:1", 4);
        fault("+0:0-1:1", 6);
        fault("+0:0+1:1", 4);
        fault("+0:0@5+1:1", 6);
        fault("+0:0@5-6;-1:1@7;+2:3-4", NONE);
        fault("+0:0;-1:12", 8);
        fault("+0:0;-6:1", 6);
        fault("+0:0;x", 5);
        fault("+0:0,-1:1", 4);
    }

    private static void faultOfAnUnfinishedOne() {
        String[] cut = {"", "+", "+0", "+0:", "+0:1-", "+0:11-", "+0:1@", "+0:1-2@", "+0:1@5-", "+0:1@55-", "+0:1;", "+0:1@5-6;", "+0:1;-"};
        for (String text : cut) {
            fault(text, text.length());
        }
        String[] whole = {"+0:1", "+0:11", "+0:1-2", "+0:1-11", "+0:1@5", "+0:1@55", "+0:1@5-6", "+0:1@5-66", "+0:1;-*:1"};
        for (String text : whole) {
            fault(text, NONE);
        }
    }

    /** Every byte behind every beginning: where it can go on, the FAULT is behind it or there is none. */
    private static void faultOfEachByte() {
        String[] begins = {"", "+", "+0", "+0:", "+0:5", "+0:5-", "+0:5-7", "+0:5@", "+0:5@3", "+0:5@3-", "+0:5@3-4", "+0:5;"};
        String[] goOn = {"+-", "012345*", ":", "0123456789", "-@;", "56789", "@;", "0123456789", "0123456789-;", "3456789", "0123456789;", "+-"};
        for (int k = 0; k < begins.length; k++) {
            for (int b = 0; b < 256; b++) {
                AirParted x = of(begins[k]);
                x.type(b);
                boolean goes = goOn[k].indexOf((char) b) >= 0;
                int found = x.fault();
                boolean later = found == NONE || found == begins[k].length() + 1;
                if (goes) {
                    Check.holds("34: " + begins[k] + " can go on with byte " + b + ", FAULT " + found, later);
                } else if (b < '0' || b > '9') {
                    Check.due("34: " + begins[k] + " cannot go on with byte " + b, found, begins[k].length());
                } else {
                    Check.holds("34: " + begins[k] + " has a FAULT with byte " + b, found >= 0 && found <= begins[k].length());
                }
            }
        }
    }

    private static void faultIsTheFirst() {
        fault("x6:12", 0);
        fault("+6:12@5-4", 1);
        fault("+0:12@5-4", 3);
        fault("+0:2-1@5-4", 5);
        fault("+0:2@5-4;x", 7);
        fault("+0:99x", 3);
    }

    private static void faultInFullTexts() {
        AirParted x = States.full();
        Check.due("34: 120 bytes without a FAULT", x.fault(), NONE);
        StringBuilder text = new StringBuilder();
        for (int r = 0; r < 24; r++) {
            text.append("+0:1;");
        }
        AirParted y = of(text.toString());
        Check.due("53: 120 bytes", y.count(3), 120);
        Check.due("34: behind the last of 120", y.fault(), 120);
        AirParted z = of(text.substring(0, 119) + "x");
        Check.due("34: at the last of 120", z.fault(), 119);
        AirParted a = of(text.substring(0, 119) + "2");
        Check.due("34: a number up to the last of 120 that may not be", a.fault(), 118);
        AirParted b = of(text.substring(0, 119) + "0");
        Check.due("34: a number up to the last of 120", b.fault(), NONE);
    }

    // ---- promises 35 and 36

    private static void mayIsBounded() {
        Refusal.bounds("35: KIND", States::some, (x, v) -> x.may(v, 0, 0), 0, 5);
        Refusal.bounds("35: SLOT", States::some, (x, v) -> x.may(0, v, 0), 0, 11);
        Refusal.bounds("35: day", States::some, (x, v) -> x.may(0, 0, v), 0, 99);
        Refusal.bad("35: BAD of an empty one", States::fresh, x -> x.may(6, 0, 0));
        Refusal.bad("35: BAD with a FAULT", () -> of("x"), x -> x.may(0, 12, 0));
    }

    private static void ruleIsBounded() {
        Refusal.bounds("36: KIND", States::some, (x, v) -> x.rule(v, 0, 0), 0, 5);
        Refusal.bounds("36: SLOT", States::some, (x, v) -> x.rule(0, v, 0), 0, 11);
        Refusal.bounds("36: day", States::some, (x, v) -> x.rule(0, 0, v), 0, 99);
        Refusal.bad("36: BAD of an empty one", States::fresh, x -> x.rule(0, 0, 100));
        Refusal.bad("36: BAD with a FAULT", () -> of("x"), x -> x.rule(-1, 0, 0));
    }

    private static void mayOfNoRule() {
        AirParted x = new AirParted();
        Check.due("35: of an empty one", x.may(0, 0, 0), 0);
        Check.due("36: of an empty one", x.rule(0, 0, 0), NONE);
        AirParted y = of("+0:0@0");
        Check.due("35: another KIND is not named", y.may(1, 0, 0), 0);
        Check.due("35: another SLOT is not named", y.may(0, 1, 0), 0);
        Check.due("35: another day is not named", y.may(0, 0, 1), 0);
        Check.due("36: nor is there a rule", y.rule(0, 0, 1), NONE);
        Check.due("35: it itself is", y.may(0, 0, 0), 1);
    }

    private static void mayWithAFault() {
        AirParted x = of("+*:0-11");
        Check.due("35: without a FAULT", x.may(5, 11, 99), 1);
        x.type(';');
        Check.due("35: with a FAULT", x.may(5, 11, 99), 0);
        Check.due("36: with a FAULT", x.rule(5, 11, 99), NONE);
        States.typed(x, "-0:0");
        Check.due("35: finished again", x.may(5, 11, 99), 1);
        Check.due("36: finished again", x.rule(5, 11, 99), 0);
        Check.due("36: and the new one", x.rule(0, 0, 0), 1);
    }

    private static void mayByKinds() {
        for (int named = 0; named < 6; named++) {
            AirParted x = of("+" + named + ":3");
            for (int kind = 0; kind < 6; kind++) {
                Check.due("35: KIND " + kind + " by a rule of " + named, x.may(kind, 3, 50), kind == named ? 1 : 0);
                Check.due("36: KIND " + kind + " by a rule of " + named, x.rule(kind, 3, 50), kind == named ? 0 : NONE);
            }
        }
        AirParted all = of("+*:3");
        for (int kind = 0; kind < 6; kind++) {
            Check.due("35: KIND " + kind + " by a rule of all", all.may(kind, 3, 50), 1);
        }
    }

    private static void mayBySlots() {
        String[] texts = {"+0:0", "+0:11", "+0:0-11", "+0:3-5", "+0:10-11", "+0:7-7", "+0:05-06"};
        int[][] spans = {{0, 0}, {11, 11}, {0, 11}, {3, 5}, {10, 11}, {7, 7}, {5, 6}};
        for (int k = 0; k < texts.length; k++) {
            AirParted x = of(texts[k]);
            for (int slot = 0; slot < 12; slot++) {
                boolean in = slot >= spans[k][0] && slot <= spans[k][1];
                Check.due("35: SLOT " + slot + " by " + texts[k], x.may(0, slot, 0), in ? 1 : 0);
                Check.due("36: SLOT " + slot + " by " + texts[k], x.rule(0, slot, 0), in ? 0 : NONE);
            }
        }
    }

    private static void mayByDays() {
        String[] texts = {"+0:0", "+0:0@0", "+0:0@99", "+0:0@0-99", "+0:0@10-20", "+0:0@9-10", "+0:0@42-42", "+0:0@05"};
        int[][] spans = {{0, 99}, {0, 0}, {99, 99}, {0, 99}, {10, 20}, {9, 10}, {42, 42}, {5, 5}};
        for (int k = 0; k < texts.length; k++) {
            AirParted x = of(texts[k]);
            for (int day = 0; day < 100; day++) {
                boolean in = day >= spans[k][0] && day <= spans[k][1];
                Check.due("35: day " + day + " by " + texts[k], x.may(0, 0, day), in ? 1 : 0);
                Check.due("36: day " + day + " by " + texts[k], x.rule(0, 0, day), in ? 0 : NONE);
            }
        }
    }

    private static void nothingIsLeftOfTextsWiped() {
        AirParted x = of("+0:3-5@50-60;-0:4@55");
        Check.due("36: by the old ones", x.rule(0, 4, 55), 1);
        x.wipe();
        States.typed(x, "-*:0-11;+0:4");
        for (int day : new int[] {0, 49, 55, 61, 99}) {
            Check.due("36: days that are not named are all, day " + day, x.rule(0, 4, day), 1);
            Check.due("35: the new sign tells, day " + day, x.may(0, 4, day), 1);
            Check.due("36: of all KINDS and SLOTS, day " + day, x.rule(5, 11, day), 0);
        }
    }

    private static void mayAsTheLastRuleTells() {
        AirParted x = of("+*:0-11;-2:5;+*:5@7;-*:5@7-8");
        Check.due("35: by the first", x.may(2, 4, 7), 1);
        Check.due("35: by the second", x.may(2, 5, 6), 0);
        Check.due("35: by the last", x.may(2, 5, 7), 0);
        Check.due("35: another KIND by the last", x.may(1, 5, 8), 0);
        Check.due("35: another KIND by the first", x.may(1, 5, 9), 1);
        Check.due("36: by the first", x.rule(2, 4, 7), 0);
        Check.due("36: by the second", x.rule(2, 5, 6), 1);
        Check.due("36: by the last", x.rule(2, 5, 7), 3);
        Check.due("35: - then +", of("-0:0;+0:0").may(0, 0, 0), 1);
        Check.due("35: + then -", of("+0:0;-0:0").may(0, 0, 0), 0);
    }

    private static void rulesAreNumberedFrom0() {
        StringBuilder text = new StringBuilder("+0:0");
        for (int r = 1; r < 24; r++) {
            text.append(";+").append(r % 6).append(':').append(r % 10);
        }
        AirParted x = of(text.toString());
        Check.due("53: 119 bytes", x.count(3), 119);
        Check.due("34: 24 rules are the most", x.fault(), NONE);
        Check.due("36: rule 23", x.rule(5, 3, 0), 23);
        Check.due("36: rule 0", x.rule(0, 0, 0), 0);
        Check.due("36: rule 22", x.rule(4, 2, 0), 22);
        Check.due("36: rule 1", x.rule(1, 1, 0), 1);
        Check.due("32: a figure more", x.type('1'), 120);
        Check.due("34: SLOT 31 may not be", x.fault(), 118);
        Check.due("36: nor any rule then", x.rule(0, 0, 0), NONE);
        Check.due("32: full", x.type(';'), FULL);
        Check.due("36: BAD all the same", x.rule(0, 0, -1), BAD);
    }
}
