/** Promises 29 to 33: kinds, asks, the trace, counts. */
public final class AskTests {
    private static final int MIN = Integer.MIN_VALUE, MAX = Integer.MAX_VALUE;
    private static final int NONE = -1000000, BAD = -1000001, KIND = -1000013;

    /** Weights: 12, 8, 3, 6, 14. */
    private static final String FIVE = "s2,3;g7;g4;p0,1,3,18;i0,2,3,20;t1,0,5,15;o1,1,5,9;m0,3,8,0;";

    private static final Check check = new Check("AskTests");

    public static void main(String[] args) {
        promise29();
        promise30();
        promise31();
        promise31Settled();
        promise32();
        promise33();
        check.end();
    }

    private static void promise29() {
        check.promise(29, "The KIND of a PROMISE, as told (1 to 5).");
        PromiseScales x = Check.told(FIVE);
        for (int promise = 0; promise < 5; promise++) {
            check.due("kind of " + promise, x.kind(promise), promise + 1);
        }
        x.settle(1, 0);
        x.worded(2, 5);
        check.due("as told, when settled", x.kind(1), 2);
        check.due("as told, when worded", x.kind(2), 3);
        check.promise(29, "BAD.");
        check.due("no scales", new PromiseScales().kind(0), BAD);
        for (int promise : new int[] {-1, 5, 8, MIN, MAX}) {
            check.due("no such promise " + promise, x.kind(promise), BAD);
        }
    }

    private static void promise30() {
        check.promise(30, "A PROMISE is taken as one of a KIND (0 .. 5): the PROMISE's number.");
        check.promise(30, "BAD; KIND: it is no such one.");
        PromiseScales x = Check.told(FIVE);
        String[] kindsOf = {"01", "012", "013", "04", "045"};
        for (int promise = 0; promise < 5; promise++) {
            for (int kind = 0; kind <= 5; kind++) {
                boolean is = kindsOf[promise].indexOf('0' + kind) >= 0;
                check.due("as " + promise + " " + kind, x.as(promise, kind), is ? promise : KIND);
                check.due("status", x.status(), is ? 0 : 3);
            }
        }
        check.due("no scales", new PromiseScales().as(0, 0), BAD);
        for (int promise : new int[] {-1, 5, MIN, MAX}) {
            check.due("no such promise " + promise, x.as(promise, 0), BAD);
            check.due("no such promise, ahead of KIND " + promise, x.as(promise, 5), BAD);
        }
        for (int kind : new int[] {-1, 6, MIN, MAX}) {
            check.due("no such kind " + kind, x.as(0, kind), BAD);
        }
        x.as(3, 0);
        check.due("its kind is left", x.kind(3), 4);
    }

    private static void asked(PromiseScales x, int promise, int what, int want, int... trace) {
        check.due("ask " + promise + " " + what, x.ask(promise, what), want);
        for (int i = 0; i < trace.length; i++) {
            check.due("ask " + promise + " " + what + " trace " + i, x.trace(i), trace[i]);
        }
        check.due("ask " + promise + " " + what + " no more", x.trace(trace.length), NONE);
    }

    private static void promise31() {
        check.promise(31, "An ASK (0, 1) of a PROMISE.");
        PromiseScales x = Check.told(FIVE);
        asked(x, 0, 1, 12, 21, 20);
        asked(x, 0, 0, 30, 11, 10, 21, 20);
        asked(x, 1, 1, 18, 24, 21, 20);
        asked(x, 1, 0, -38, 12, 11, 10, 24, 21, 20);
        asked(x, 2, 1, -995, 22, 21, 20);
        asked(x, 2, 0, -980, 11, 10, 22, 21, 20);
        asked(x, 3, 0, -91, 13, 10);
        asked(x, 3, 1, 94, 23, 20, 13, 10);
        asked(x, 4, 0, -200, 14, 13, 10);
        asked(x, 4, 1, 204, 23, 20, 14, 13, 10);
        check.promise(31, "BAD (THE TRACE stays then).");
        check.due("no scales", new PromiseScales().ask(0, 0), BAD);
        for (int promise : new int[] {-1, 5, MIN, MAX}) {
            check.due("no such promise " + promise, x.ask(promise, 0), BAD);
        }
        for (int what : new int[] {-1, 2, MIN, MAX}) {
            check.due("no such ask " + what, x.ask(0, what), BAD);
        }
        int[] stays = {23, 20, 14, 13, 10, NONE};
        for (int i = 0; i < stays.length; i++) {
            check.due("the trace stays by BAD", x.trace(i), stays[i]);
        }
        check.promise(31, "THE TRACE is empty ahead of it.");
        asked(x, 0, 1, 12, 21, 20);
        asked(x, 0, 1, 12, 21, 20);
    }

    private static void promise31Settled() {
        check.promise(31, "An ASK (0, 1) of a PROMISE.");
        PromiseScales x = Check.told(FIVE);
        x.settle(0, 1);
        x.settle(2, 0);
        asked(x, 0, 1, 20, 21, 20);
        asked(x, 1, 1, 34, 24, 21, 20);
        asked(x, 2, 1, -998, 22, 21, 20);
        asked(x, 0, 0, 38, 11, 10, 21, 20);
    }

    private static void promise32() {
        check.promise(32, "Number i of THE TRACE; NONE.");
        check.due("no scales", new PromiseScales().trace(0), NONE);
        PromiseScales x = Check.told(FIVE);
        check.due("empty", x.trace(0), NONE);
        x.ask(1, 0);
        x.ask(3, 0);
        check.due("the latest ask alone", x.trace(0), 13);
        check.due("its second", x.trace(1), 10);
        for (int i : new int[] {-1, 2, 15, 16, MIN, MAX}) {
            check.due("no number " + i, x.trace(i), NONE);
        }
        Check.tell(x, "s0,1;");
        check.due("by other scales it stays", x.trace(1), 10);
        check.due("and has no more", x.trace(2), NONE);
    }

    private static void promise33() {
        check.promise(33, "How many: 0 ROWS, 1 PROMISES, 2 GIVERS, 3 the PAN (bits), 4 what it READS (0 without SCALES), "
            + "5 WAX, 6 STICK, 7 ACTS that can be undone, 8 bytes on the tape.");
        PromiseScales x = Check.told(FIVE);
        Check.feed(x, "s12");
        x.row(0, 0, 0);
        x.row(7, 0, 1);
        x.lay(0, 1);
        x.lay(3, 1);
        x.wax(4);
        int[] want = {2, 5, 2, 9, 21, 4, 3, 3, 3};
        for (int what = 0; what <= 8; what++) {
            check.due("count " + what, x.count(what), want[what]);
        }
        x.settle(3, 1);
        check.due("what the pan reads: 12 and 4", x.count(4), 15);
        mostAndLeast();
        check.promise(33, "BAD.");
        for (int what : new int[] {-1, 9, MIN, MAX}) {
            check.due("no such count " + what, x.count(what), BAD);
            check.due("no such count without scales " + what, new PromiseScales().count(what), BAD);
        }
    }

    private static void mostAndLeast() {
        PromiseScales x = new PromiseScales();
        counts(x, 0, 0, 0, 0, 0, 0, 0, 0, 0);
        Check.feed(x, "s9,5");
        counts(x, 0, 0, 0, 0, 0, 0, 0, 0, 4);
        Check.tell(x, ";g10;g10;g10;g10;" + "p0,0,0,20;".repeat(8));
        counts(x, 0, 8, 4, 0, 5, 9, 5, 0, 0);
        for (int p = 0; p < 8; p++) {
            x.row(p, 0, 0);
            x.lay(p, 1);
        }
        counts(x, 8, 8, 4, 255, 165, 9, 5, 8, 0);
        for (int n = 0; n < 120; n++) {
            x.feed(0);
            x.wax(9);
        }
        counts(x, 8, 8, 4, 255, 165, 9, 5, 24, 120);
        x.scales();
        counts(x, 8, 8, 4, 255, 165, 9, 5, 24, 0);
    }

    private static void counts(PromiseScales x, int... want) {
        for (int what = 0; what <= 8; what++) {
            check.due("count " + what, x.count(what), want[what]);
        }
    }
}
