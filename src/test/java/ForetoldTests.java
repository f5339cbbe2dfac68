/** Promises 16 to 28: what is foretold, and images. */
public final class ForetoldTests {
    private static final int MIN = Integer.MIN_VALUE, MAX = Integer.MAX_VALUE;
    private static final int NONE = -1000000, BAD = -1000001, STATE = -1000002;
    private static final int NULL = -1000011, PLACE = -1000012;
    private static final int[] NO_SIDES = {-1, 2, MIN, MAX};

    /** Weights: 12, 8, 3, 6, 14, 4, 8; clashes: 0 and 1, 1 and 5, 2 and 3. */
    private static final String SEVEN =
        "s2,3;g7;g4;p0,1,3,18;i0,2,3,20;t1,0,5,15;o1,1,5,9;m0,3,8,0;p0,1,3,6;p1,4,0,20;";

    private static final Check check = new Check("ForetoldTests");

    public static void main(String[] args) {
        promise16();
        promise17();
        promise18();
        promise19();
        promise20();
        promise21();
        promise22();
        promise23();
        promise24();
        promise24Refusals();
        promise25();
        promise26();
        promise27And28();
        nothingChanges();
        eightAndThenFewer();
        bagsOfOtherScales();
        check.end();
    }

    /** A call with these numbers, of which the last tells what is asked. */
    private interface Call {
        int by(PromiseScales x, int n, int what);
    }

    /** STATE without scales, whatever the numbers; with scales BAD just outside, and far off. */
    private static void refusedOutside(int least, int most, Call call) {
        PromiseScales without = new PromiseScales();
        PromiseScales x = Check.told(SEVEN);
        for (int n : new int[] {least - 1, most + 1, MIN, MAX}) {
            check.due("no scales, ahead of BAD by " + n, call.by(without, n, 0), STATE);
            check.due("no such number " + n, call.by(x, n, 0), BAD);
            check.due("no such number, asked the other", call.by(x, n, 1), BAD);
        }
        for (int what : NO_SIDES) {
            check.due("no scales, ahead of BAD of " + what, call.by(without, least, what), STATE);
            check.due("no such thing of the least " + what, call.by(x, least, what), BAD);
            check.due("no such thing of the most " + what, call.by(x, most, what), BAD);
        }
        for (int what = 0; what <= 1; what++) {
            check.due("no scales", call.by(without, most, what), STATE);
            check.holds("the least is one", call.by(x, least, what) >= 0);
            check.holds("the most is one", call.by(x, most, what) >= NONE);
        }
    }

    private static void promise16() {
        check.promise(16, "CLASH: how many (what = 0), the first (1; NONE).");
        PromiseScales x = Check.told(SEVEN);
        check.due("pairs", x.clash(0), 3);
        check.due("the first, 0 and 1", x.clash(1), 1);
        x.settle(0, 1);
        check.due("pairs less one", x.clash(0), 2);
        check.due("the first, 1 and 5", x.clash(1), 13);
        x.settle(1, 0);
        check.due("the first, 2 and 3", x.clash(1), 19);
        x.settle(3, 0);
        check.due("no pairs", x.clash(0), 0);
        check.due("no first", x.clash(1), NONE);
        String two = "s0,1;g5;g5;";
        check.due("two days", Check.told(two + "p0,0,1,5;p0,1,2,5;").clash(0), 0);
        check.due("two givers", Check.told(two + "p0,0,1,5;p1,1,1,5;").clash(0), 0);
        check.due("alike deeds", Check.told(two + "p0,3,1,5;o0,3,1,5;").clash(0), 0);
        check.due("unlike kinds, unlike deeds", Check.told(two + "t1,3,1,0;m1,4,1,0;").clash(0), 1);
        check.due("three of a day", Check.told(two + "p1,3,1,0;p1,4,1,0;p1,5,1,0;").clash(0), 3);
        check.due("none at all", Check.told("s0,1;").clash(1), NONE);
        check.promise(16, "BAD; STATE: no SCALES (ahead of BAD).");
        for (int what : NO_SIDES) {
            check.due("no such thing " + what, x.clash(what), BAD);
            check.due("no scales, ahead of BAD " + what, new PromiseScales().clash(what), STATE);
        }
        check.due("no scales", new PromiseScales().clash(0), STATE);
        check.due("no scales, no first", new PromiseScales().clash(1), STATE);
    }

    private static void promise17() {
        check.promise(17, "BAGS: how many (what = 0), the one with fewest (1); NONE.");
        PromiseScales x = Check.told(SEVEN);
        check.due("0: the empty one", x.bags(0, 0), 1);
        check.due("0: it", x.bags(0, 1), 0);
        check.due("6: 5, or 2 alone has 3; 2 and 5; 3", x.bags(6, 0), 2);
        check.due("6: fewest, least", x.bags(6, 1), 8);
        check.due("1: none", x.bags(1, 0), 0);
        check.due("1: not one", x.bags(1, 1), NONE);
        check.due("200: none", x.bags(200, 0), 0);
        check.due("30", x.bags(30, 0), 7);
        check.due("30: fewest, least", x.bags(30, 1), 21);
        PromiseScales y = Check.told("s0,1;g10;p0,0,0,5;p0,0,1,3;p0,0,2,2;p0,0,3,5;p0,1,3,0;");
        check.due("5: 0; 3; 1 and 2; 0 and 4; 1, 2 and 4", y.bags(5, 0), 5);
        check.due("5: fewest", y.bags(5, 1), 1);
        check.due("10: 0 and 3; 0, 1, 2; 1, 2, 3; 0, 1, 2, 4", y.bags(10, 0), 4);
        check.due("10: fewest", y.bags(10, 1), 9);
        y.settle(0, 1);
        check.due("5 without 0: 3; 1 and 2; 1, 2 and 4", y.bags(5, 0), 3);
        check.due("5: fewest without 0", y.bags(5, 1), 8);
        y.settle(4, 1);
        check.due("20 of one kept is none", y.bags(20, 0), 0);
        PromiseScales z = Check.told("s9,5;");
        check.due("wax alone, less 4", z.bags(5, 0), 1);
        check.due("wax alone, not 9", z.bags(9, 1), NONE);
        check.promise(17, "BAD: v not 0 to 200, what; STATE: no SCALES (ahead of BAD).");
        refusedOutside(0, 200, (one, v, what) -> one.bags(v, what));
    }

    private static void promise18() {
        check.promise(18, "HEAVIEST of n (0 to 8): what it READS (what = 0), which (1).");
        PromiseScales x = Check.told(SEVEN);
        int[][] want = {{0, 0}, {15, 16}, {27, 17}, {36, 81}, {42, 89}, {45, 121}, {45, 121}, {45, 121}, {45, 121}};
        for (int n = 0; n <= 8; n++) {
            check.due("heaviest of " + n, x.heaviest(n, 0), want[n][0]);
            check.due("which of " + n, x.heaviest(n, 1), want[n][1]);
        }
        x.settle(4, 1);
        check.due("a settled one is in none: 12 and 2", x.heaviest(1, 0), 15);
        check.due("which, with 13 for the first", x.heaviest(1, 1), 1);
        PromiseScales y = Check.told("s4,5;g10;p0,0,0,1;p0,0,0,0;p0,0,0,1;p0,0,1,1;p0,1,1,2;");
        check.due("one is enough for 5", y.heaviest(8, 0), 5);
        check.due("the least of those", y.heaviest(8, 1), 1);
        check.due("none at all", Check.told("s9,2;").heaviest(8, 0), 8);
        check.due("the empty one", Check.told("s9,2;").heaviest(8, 1), 0);
        check.promise(18, "BAD; STATE: no SCALES (ahead of BAD).");
        refusedOutside(0, 8, (one, n, what) -> one.heaviest(n, what));
    }

    private static void words(PromiseScales x, int promise, int... want) {
        for (int kind = 0; kind <= 5; kind++) {
            check.due("worded " + promise + " by " + kind, x.worded(promise, kind), want[kind]);
        }
    }

    private static void promise19() {
        check.promise(19, "WORDED: WEIGHT by a KIND (1 to 5), the best KIND (kind = 0).");
        PromiseScales x = Check.told(SEVEN);
        words(x, 0, 4, 12, 12, 6, 20, 20);
        words(x, 1, 4, 14, 8, 7, 20, 8);
        words(x, 2, 4, 6, 2, 3, 12, 12);
        words(x, 3, 5, 3, 0, 2, 6, 17);
        words(x, 4, 5, 0, 0, 0, 0, 14);
        words(x, 5, 4, 4, 2, 2, 8, 6);
        PromiseScales y = Check.told("s0,1;g0;p0,0,0,0;m0,0,0,0;o0,0,0,20;");
        words(y, 2, 1, 0, 0, 0, 0, 0);
        y.settle(1, 0);
        words(y, 2, 5, 0, 0, 0, 0, 20);
        check.promise(19, "BAD; STATE: it is SETTLED.");
        check.due("no scales", new PromiseScales().worded(0, 1), BAD);
        y.settle(0, 1);
        check.due("settled and kept", y.worded(0, 5), STATE);
        check.due("settled", y.worded(1, 1), STATE);
        check.due("settled, the best", y.worded(1, 0), STATE);
        for (int promise : new int[] {-1, 7, 8, MIN, MAX}) {
            check.due("no such promise " + promise, x.worded(promise, 1), BAD);
        }
        for (int kind : new int[] {-1, 6, MIN, MAX}) {
            check.due("no such kind " + kind, x.worded(0, kind), BAD);
            check.due("ahead of STATE", y.worded(1, kind), BAD);
        }
    }

    private static void promise20() {
        check.promise(20, "PRICE of a PROMISE.");
        PromiseScales x = Check.told(SEVEN);
        check.due("999 by 12", x.price(0, 999), 599);
        check.due("0", x.price(0, 0), 0);
        check.due("cut", x.price(2, 6), 0);
        check.due("just 1", x.price(2, 7), 1);
        x.settle(0, 1);
        x.settle(1, 0);
        check.due("kept", x.price(0, 999), 999);
        check.due("broken", x.price(1, 999), 0);
        check.promise(20, "BAD.");
        check.due("no scales", new PromiseScales().price(0, 1), BAD);
        for (int promise : new int[] {-1, 7, MIN, MAX}) {
            check.due("no such promise " + promise, x.price(promise, 1), BAD);
        }
        for (int v : new int[] {-1, 1000, MIN, MAX}) {
            check.due("no such v " + v, x.price(0, v), BAD);
        }
    }

    private static void promise21() {
        check.promise(21, "PRICE of a GIVER.");
        PromiseScales x = Check.told(SEVEN);
        check.due("60, 40, 70, 20", x.prices(0, 100), 190);
        check.due("by 0", x.prices(0, 0), 0);
        check.due("each is cut: 4, 2, 4, 1", x.prices(0, 7), 11);
        check.due("15, 30, 40", x.prices(1, 100), 85);
        x.settle(0, 1);
        check.due("16, 14 and 4: settled ones do not count", x.prices(0, 100), 80 + 70 + 20);
        check.due("one who gave none", Check.told("s0,1;g4;").prices(0, 999), 0);
        check.due("the most of all", Check.told("s0,1;g10;" + "p0,0,0,20;".repeat(8)).prices(0, 999), 7992);
        check.promise(21, "BAD.");
        check.due("no scales", new PromiseScales().prices(0, 1), BAD);
        check.due("no givers", Check.told("s0,1;").prices(0, 1), BAD);
        for (int giver : new int[] {-1, 2, MIN, MAX}) {
            check.due("no such giver " + giver, x.prices(giver, 1), BAD);
        }
        for (int v : new int[] {-1, 1000, MIN, MAX}) {
            check.due("no such v " + v, x.prices(0, v), BAD);
        }
    }

    private static void promise22() {
        check.promise(22, "SETTLES: KEEPS (what = 0), how many are KEPT (1).");
        PromiseScales x = Check.told(SEVEN);
        check.due("all kept", x.settles(0, 0, 0), 10);
        check.due("four", x.settles(0, 0, 1), 4);
        // Day 3 by 10: 0 (12) is kept, keeps 8; 1 (16) is kept, keeps 9; 5 (5) is broken, keeps 8;
        // day 5: 2 and 3 are broken; day 8: 4 (20, as 3 is broken) is kept, keeps 9.
        check.due("by 10", x.settles(0, 10, 0), 9);
        check.due("by 10 kept", x.settles(0, 10, 1), 3);
        // By 20: 0 (12) broken, keeps 6; 1 (0) broken, 5; 5 (3) broken, 4; 4 (20) kept, 5.
        check.due("by 20", x.settles(0, 20, 0), 5);
        check.due("by 20 kept", x.settles(0, 20, 1), 1);
        check.due("the other by 10", x.settles(1, 10, 0), 1);
        x.settle(6, 1);
        x.settle(2, 0);
        check.due("those kept ahead count", x.settles(1, 20, 1), 1);
        check.due("from 4 anew", x.settles(1, 20, 0), 3);
        // Later promises of earlier days are settled first.
        PromiseScales y = Check.told("s0,1;g5;p0,0,9,18;p0,0,0,20;");
        check.due("by 10: 1 (10), then 0 (10)", y.settles(0, 10, 1), 2);
        check.due("by 11: neither", y.settles(0, 11, 1), 0);
        check.due("by 11 keeps", y.settles(0, 11, 0), 3);
        check.promise(22, "BAD.");
        check.due("no scales", new PromiseScales().settles(0, 1, 0), BAD);
        check.holds("h 0", x.settles(0, 0, 0) >= 0);
        check.holds("h 20", x.settles(1, 20, 1) >= 0);
        for (int giver : new int[] {-1, 2, MIN, MAX}) {
            check.due("no such giver " + giver, x.settles(giver, 1, 0), BAD);
        }
        for (int h : new int[] {-1, 21, MIN, MAX}) {
            check.due("no such h " + h, x.settles(0, h, 0), BAD);
        }
        for (int what : NO_SIDES) {
            check.due("no such thing " + what, x.settles(0, 1, what), BAD);
        }
    }

    private static void promise23() {
        check.promise(23, "BEST h.");
        PromiseScales x = Check.told(SEVEN);
        check.due("the first", x.bestHeavy(0), 0);
        check.due("the second", x.bestHeavy(1), 0);
        check.due("one who gave none", Check.told("s0,1;g4;").bestHeavy(0), 0);
        // By 0 all are kept, so that no h can be better, and it is the least of all.
        check.due("of several the least", Check.told("s0,1;g5;g5;p1,0,0,20;m0,0,1,0;").bestHeavy(0), 0);
        PromiseScales y = Check.told("s0,1;g10;p0,0,0,10;p0,0,1,9;p0,0,2,20;");
        check.due("by 0 all are kept", y.settles(0, 0, 0), 10);
        check.due("by 10: kept, broken, kept", y.settles(0, 10, 0), 10);
        check.due("10 by several", y.bestHeavy(0), 0);
        PromiseScales z = Check.told("s0,1;g0;p0,0,0,20;p0,0,1,20;m0,0,2,0;");
        check.due("by 0: kept, kept, kept", z.settles(0, 0, 0), 3);
        check.due("by 1: broken, broken, kept (20)", z.settles(0, 1, 0), 1);
        check.due("3 by 0 alone", z.bestHeavy(0), 0);
        check.promise(23, "BAD.");
        check.due("no scales", new PromiseScales().bestHeavy(0), BAD);
        check.due("no givers", Check.told("s0,1;").bestHeavy(0), BAD);
        for (int giver : new int[] {-1, 2, MIN, MAX}) {
            check.due("no such giver " + giver, x.bestHeavy(giver), BAD);
        }
    }

    private static void promise24() {
        check.promise(24, "FOUND by n sets (1 to 8), two ITEMS each, of a ROW from i on: WAXES (what = 0), STICKS (1).");
        PromiseScales x = Check.told(SEVEN);
        Check.put(x, 0, 0, 0, 1, 12, 2, 9, 3, 21, 9, 9);
        check.due("wax: 0 reads 0 by 0, 1, 2", x.found(0, 0, 1, 0), 7);
        check.due("wax: 12 reads 12 by 0, 1, 2", x.found(0, 0, 2, 0), 7);
        check.due("wax: 8 reads 9 by 1, 2, 3", x.found(0, 4, 1, 0), 14);
        check.due("wax: all three by 1, 2", x.found(0, 0, 3, 0), 6);
        check.due("wax: 20 reads 21 by 1, 2, 3", x.found(0, 6, 1, 0), 14);
        check.due("wax: 18 (0 and 3) does not read 9", x.found(0, 8, 1, 0), 0);
        check.due("stick: 2 reads 0 by 3, 4, 5", x.found(0, 0, 1, 1), 28);
        check.due("stick: 14 reads 12 by 3, 4", x.found(0, 2, 1, 1), 12);
        check.due("stick: both", x.found(0, 0, 2, 1), 12);
        check.due("stick: 10 reads 9 by 3", x.found(0, 4, 1, 1), 4);
        check.due("at the end", x.found(0, 8, 1, 1), 0);
        x.settle(0, 1);
        Check.put(x, 1, 1, 22);
        check.due("a kept one: 22 by 1, 2", x.found(1, 0, 1, 1), 3);
        PromiseScales y = Check.told("s0,1;");
        y.row(0, 0, 40);
        for (int wax = 0; wax <= 9; wax++) {
            y.set(0, 1, wax);
            check.due("wax " + wax, y.found(0, 0, 1, 0), 1 << wax);
        }
        check.due("eight sets that differ", y.found(0, 0, 8, 0), 0);
        y.set(0, 1, 0);
        check.due("eight sets", y.found(0, 0, 8, 0), 1);
        check.due("eight sets by sticks", y.found(0, 24, 8, 1), 31);
    }

    private static void promise24Refusals() {
        check.promise(24, "BAD: ROW, n, what; STATE: no SCALES (ahead of BAD); NULL; PLACE; then BAD: no set of PROMISES.");
        PromiseScales x = new PromiseScales();
        check.due("no scales, ahead of BAD", x.found(-1, 0, 0, 2), STATE);
        check.due("no scales, ahead of NULL", x.found(0, 0, 1, 0), STATE);
        x.row(0, 2, 16);
        check.due("no scales, ahead of PLACE", x.found(0, 16, 1, 0), STATE);
        check.due("no scales", x.found(0, 0, 8, 1), STATE);
        Check.tell(x, SEVEN);
        for (int row : new int[] {-1, 8, MIN, MAX}) {
            check.due("no such row " + row, x.found(row, 0, 1, 0), BAD);
        }
        for (int n : new int[] {-1, 0, 9, MIN, MAX}) {
            check.due("no such n " + n, x.found(0, 0, n, 0), BAD);
            check.due("ahead of NULL", x.found(1, 0, n, 0), BAD);
        }
        for (int what : NO_SIDES) {
            check.due("no such thing " + what, x.found(0, 0, 1, what), BAD);
            check.due("ahead of NULL", x.found(1, 0, 1, what), BAD);
        }
        check.due("missing", x.found(1, 0, 1, 0), NULL);
        check.due("missing, ahead of the place", x.found(1, -1, 1, 0), NULL);
        check.due("eight fit", x.found(0, 0, 8, 0), 7);
        for (int place : new int[] {-1, 15, 16, 17, MIN, MAX}) {
            check.due("no such place " + place, x.found(0, place, 1, 0), PLACE);
        }
        check.due("beyond the end", x.found(0, 1, 8, 0), PLACE);
        check.due("the last that fits", x.found(0, 14, 1, 0), 7);
        check.due("PLACE at an end of none", noItems(x), PLACE);
        x.row(2, 0, 15);
        check.due("one item less than eight take", x.found(2, 0, 8, 0), PLACE);
        check.due("seven fit", x.found(2, 1, 7, 0), 7);
        x.row(2, 0, 40);
        check.due("eight at the end of 40", x.found(2, 24, 8, 0), 7);
        check.due("eight beyond the end of 40", x.found(2, 25, 8, 0), PLACE);
        x.set(2, 24, 128);
        check.due("a byte of -128 is no set", x.found(2, 24, 1, 0), BAD);
        x.set(0, 4, 128);
        check.due("no such set", x.found(0, 4, 1, 0), BAD);
        check.due("no such set among others", x.found(0, 0, 8, 1), BAD);
        check.due("the place ahead of the set", x.found(0, 4, 7, 1), PLACE);
        x.set(0, 4, -1);
        check.due("no such set below 0", x.found(0, 4, 1, 0), BAD);
        x.set(0, 4, 127);
        check.due("the set of all", x.found(0, 4, 1, 0), 0);
        x.set(0, 4, 0);
        x.set(0, 5, -1);
        check.due("it never reads so", x.found(0, 4, 1, 0), 0);
    }

    private static int noItems(PromiseScales x) {
        x.row(2, 2, 0);
        return x.found(2, 0, 1, 0);
    }

    private static void promise25() {
        check.promise(25, "KEEPS FOUND, as many ITEMS as the GIVER has plain PROMISES (KIND 1, as told) "
            + "that are not SETTLED, of a ROW from i on.");
        PromiseScales x = Check.told(SEVEN);
        Check.put(x, 0, 12, 4, 8, 9, 3);
        check.due("12 and 4 by 7", x.keepsFound(0, 0, 0), 128);
        check.due("8 of 20 by 4", x.keepsFound(1, 0, 2), 16);
        check.due("9 of 20 by none", x.keepsFound(1, 0, 3), 0);
        check.due("9 and 3 by 5", x.keepsFound(0, 0, 3), 32);
        check.due("12, 4: not in that order", x.keepsFound(0, 0, 1), 0);
        check.promise(25, "BAD: GIVER, ROW; NULL; PLACE (with none of them, too, "
            + "if i is below 0 or above how many ITEMS there are).");
        check.due("at the end", x.keepsFound(0, 0, 4), PLACE);
        check.due("at the end, one", x.keepsFound(1, 0, 4), 0);
        check.due("beyond it", x.keepsFound(1, 0, 5), PLACE);
        x.settle(5, 0);
        check.due("settled ones do not count: 3 of 18 by 2", x.keepsFound(0, 0, 4), 4);
        x.settle(0, 0);
        check.due("none: all", x.keepsFound(0, 0, 0), 2047);
        check.due("none, at the end", x.keepsFound(0, 0, 5), 2047);
        check.due("none, beyond it", x.keepsFound(0, 0, 6), PLACE);
        check.due("no scales", new PromiseScales().keepsFound(0, 0, 0), BAD);
        x.row(2, 0, 0);
        check.due("none, of no items", x.keepsFound(0, 2, 0), 2047);
        check.due("none, beyond no items", x.keepsFound(0, 2, 1), PLACE);
        check.due("one, of no items", x.keepsFound(1, 2, 0), PLACE);
        x.row(2, 0, 40);
        check.due("none, at the end of 40", x.keepsFound(0, 2, 40), 2047);
        check.due("none, beyond 40", x.keepsFound(0, 2, 41), PLACE);
        check.due("one, the last of 40: 0 of 20 by 0", x.keepsFound(1, 2, 39), 1);
        check.due("one, behind 40", x.keepsFound(1, 2, 40), PLACE);
        for (int place : new int[] {-1, MIN, MAX}) {
            check.due("no such place " + place, x.keepsFound(0, 0, place), PLACE);
            check.due("no such place for one " + place, x.keepsFound(1, 0, place), PLACE);
        }
        check.due("missing", x.keepsFound(0, 1, 0), NULL);
        check.due("missing, ahead of the place", x.keepsFound(0, 1, -1), NULL);
        for (int giver : new int[] {-1, 2, MIN, MAX}) {
            check.due("no such giver " + giver, x.keepsFound(giver, 0, 0), BAD);
            check.due("ahead of NULL", x.keepsFound(giver, 1, 0), BAD);
        }
        for (int row : new int[] {-1, 8, MIN, MAX}) {
            check.due("no such row " + row, x.keepsFound(0, row, 0), BAD);
        }
        check.promise(25, "KEEPS FOUND, as many ITEMS as the GIVER has plain PROMISES (KIND 1, as told) "
            + "that are not SETTLED, of a ROW from i on.");
        PromiseScales y = Check.told("s0,1;g3;p0,0,0,0;p0,0,0,3;i0,0,0,5;");
        Check.put(y, 0, 0, 1);
        check.due("1 of 3 by 4, 5, 6; an if is no plain one", y.keepsFound(0, 0, 0), 16 + 32 + 64);
        y.settle(1, 1);
        check.due("0 of 0 by all", y.keepsFound(0, 0, 0), 2047);
        check.due("1 of 0 by none", y.keepsFound(0, 0, 1), 0);
    }

    private static void isFree(int c, int n, int above, int below) {
        PromiseScales x = new PromiseScales();
        check.due("free " + c + " " + n + " above", x.free(c, n, 0), above);
        check.due("free " + c + " " + n + " below", x.free(c, n, 1), below);
    }

    private static void promise26() {
        check.promise(26, "FREE: above (what = 0), below (1).");
        isFree(0, 0, 0, 1);
        isFree(10, 0, 0, 1);
        isFree(5, 0, 0, 1);
        isFree(0, 1, 1, 1);
        isFree(0, 8, 1, 1);
        isFree(10, 8, 0, 1);
        isFree(1, 1, 9, 10);
        isFree(5, 1, 1, 2);
        isFree(5, 3, 7, 8);
        isFree(4, 2, 21, 25);
        isFree(9, 8, 56953279, 100000000);
        isFree(6, 8, 384064, 390625);
        check.promise(26, "BAD.");
        PromiseScales x = new PromiseScales();
        for (int c : new int[] {-1, 11, MIN, MAX}) {
            check.due("no such c " + c, x.free(c, 1, 0), BAD);
        }
        for (int n : new int[] {-1, 9, MIN, MAX}) {
            check.due("no such n " + n, x.free(1, n, 0), BAD);
        }
        for (int what : NO_SIDES) {
            check.due("no such thing " + what, x.free(1, 1, what), BAD);
        }
    }

    private static void promise27And28() {
        check.promise(27, "BAD; STATE: no SCALES.");
        check.promise(28, "BAD; STATE: none was kept.");
        PromiseScales x = new PromiseScales();
        check.due("no scales", x.image(0), STATE);
        check.due("none was kept", x.restore(1), STATE);
        for (int k : new int[] {-1, 2, MIN, MAX}) {
            check.due("no such image " + k, x.image(k), BAD);
            check.due("no such image to restore " + k, x.restore(k), BAD);
        }
        Check.tell(x, SEVEN);
        x.lay(1, 1);
        x.settle(0, 1);
        x.wax(5);
        check.promise(27, "An IMAGE (0, 1) is kept of the SCALES: 1.");
        check.due("kept", x.image(0), 1);
        check.due("acts are left by it", x.count(7), 3);
        check.due("the other was not kept", x.restore(1), STATE);
        x.wax(6);
        x.settle(1, 0);
        x.lay(2, 1);
        check.due("kept, the other", x.image(1), 1);
        Check.tell(x, "s1,1;g3;p0,4,4,4;");
        x.row(0, 0, 3);
        Check.feed(x, "s");
        x.wax(3);
        check.promise(28, "The SCALES are as an IMAGE kept them (no ACT can be undone then): 1.");
        check.due("restored", x.restore(0), 1);
        check.due("no act", x.undo(), STATE);
        check.due("promises", x.count(1), 7);
        check.due("givers", x.count(2), 2);
        check.due("pan", x.count(3), 2);
        check.due("wax", x.count(5), 5);
        check.due("stick", x.count(6), 3);
        check.due("rows stay", x.count(0), 1);
        check.due("the tape stays", x.count(8), 1);
        check.due("keeps", x.keeps(0), 8);
        check.due("kept yet", x.promise(0, 5), 1);
        check.due("not settled yet", x.promise(1, 5), 0);
        check.due("deed", x.promise(1, 1), 2);
        check.due("kind", x.kind(4), 5);
        x.settle(2, 1);
        check.due("restored, the other", x.restore(1), 1);
        check.due("pan of it", x.count(3), 4);
        check.due("keeps of it", x.keeps(0), 7);
        check.due("broken in it", x.promise(1, 5), 2);
        check.due("restored once more", x.restore(0), 1);
        check.due("as it was kept", x.promise(2, 5), 0);
        check.due("the image is kept in place of the one before", againAndAgain(x), 1);
        check.promise(27, "BAD; STATE: no SCALES.");
        check.due("BAD ahead of STATE", new PromiseScales().image(2), BAD);
        check.due("STATE of the last", new PromiseScales().image(1), STATE);
        check.promise(28, "BAD; STATE: none was kept.");
        check.due("BAD ahead of STATE", new PromiseScales().restore(2), BAD);
        check.due("STATE of the first", new PromiseScales().restore(0), STATE);
        check.due("none was kept of the scales there are", Check.told(SEVEN).restore(0), STATE);
    }

    /** The wax of an image that is kept in place of another. */
    private static int againAndAgain(PromiseScales x) {
        x.wax(1);
        x.image(0);
        x.wax(2);
        check.due("restored", x.restore(0), 1);
        check.due("wax of it", x.count(5), 1);
        x.wax(3);
        check.due("restored once more", x.restore(0), 1);
        return x.count(5);
    }

    private static void nothingChanges() {
        check.terms(3, "FORETOLD (nothing changes).");
        PromiseScales x = Check.told(SEVEN);
        x.lay(0, 1);
        x.settle(3, 1);
        x.bestHeavy(0);
        x.settles(1, 7, 0);
        x.worded(0, 5);
        x.heaviest(4, 1);
        x.bags(9, 1);
        check.due("keeps 0", x.keeps(0), 7);
        check.due("keeps 1", x.keeps(1), 5);
        check.due("pan", x.count(3), 1);
        check.due("acts", x.count(7), 2);
        check.due("kind", x.kind(0), 1);
        check.due("not settled", x.promise(4, 5), 0);
    }

    /** As many promises as there can be, and then, in their place, fewer. */
    private static void eightAndThenFewer() {
        check.terms(1, "SCALES that are read stand in place of those before (none at first):");
        PromiseScales x = Check.told("s0,1;g10;p0,0,0,1;p0,0,1,2;p0,0,2,4;p0,0,3,8;p0,0,4,16;p0,0,5,0;p0,0,6,0;p0,1,6,3;");
        check.due("6 and 7", x.clash(0), 1);
        check.due("the first", x.clash(1), 55);
        check.due("all read", x.reads(255), 34);
        check.due("31: 0 to 4, with 5, 6 or not; 2, 3, 4, 7, with 5 or not", x.bags(31, 0), 6);
        check.due("31: fewest", x.bags(31, 1), 4 + 8 + 16 + 128);
        check.due("heaviest", x.heaviest(8, 0), 34);
        check.due("which", x.heaviest(8, 1), 31 + 128);
        check.due("prices", x.prices(0, 20), 34);
        check.due("all kept", x.settles(0, 0, 1), 8);
        check.due("none kept", x.settles(0, 20, 0), 2);
        Check.put(x, 0, 1, 2, 4, 8, 16, 0, 0, 3);
        check.due("by 10", x.keepsFound(0, 0, 0), 1024);
        check.due("not from the next", x.keepsFound(0, 0, 1), PLACE);
        x.settle(7, 1);
        Check.tell(x, "s0,1;g10;p0,1,6,5;");
        check.due("no pairs", x.clash(0), 0);
        check.due("the first alone", x.reads(1), 5);
        check.due("no second", x.reads(2), BAD);
        check.due("5 of one", x.bags(5, 0), 1);
        check.due("0 of one", x.bags(0, 0), 1);
        check.due("heaviest of one", x.heaviest(8, 0), 5);
        check.due("prices of one", x.prices(0, 20), 5);
        check.due("one kept", x.settles(0, 0, 1), 1);
        check.due("one broken", x.settles(0, 20, 0), 9);
        x.set(0, 7, 5);
        check.due("one found", x.keepsFound(0, 0, 7), 1024);
        PromiseScales y = Check.told("s0,1;g10;p0,0,0,1;p0,0,1,1;p0,0,2,1;p0,0,3,1;p0,0,4,1;p0,0,5,1;p0,0,6,1;p0,0,7,1;");
        check.due("the set of all", y.bags(8, 1), 255);
        check.due("and no other", y.bags(8, 0), 1);
        check.due("eight ones are heaviest", y.heaviest(8, 1), 255);
        check.due("seven of them", y.heaviest(7, 1), 127);
    }

    /** What clashes or is settled in scales is not so in others, or when it is undone. */
    private static void bagsOfOtherScales() {
        check.promise(17, "BAGS: how many (what = 0), the one with fewest (1); NONE.");
        PromiseScales x = Check.told("s0,1;g10;p0,0,0,2;p0,1,0,2;p0,1,1,2;");
        check.due("0 and 2; 1 and 2", x.bags(4, 0), 2);
        x.settle(2, 1);
        check.due("none without 2", x.bags(4, 0), 0);
        x.undo();
        check.due("undone", x.bags(4, 0), 2);
        x.settle(0, 1);
        check.due("1 and 2", x.bags(4, 0), 1);
        check.due("it is told", x.bags(4, 1), 6);
        Check.tell(x, "s0,1;g10;p0,0,0,2;p0,0,0,2;p0,1,1,2;");
        check.due("0 and 1, 0 and 2, 1 and 2", x.bags(4, 0), 3);
        check.due("all", x.heaviest(3, 1), 7);
    }
}
