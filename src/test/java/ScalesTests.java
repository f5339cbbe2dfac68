/** Promises 6 to 15: the tape and its faults, promises laid and settled, wax, acts undone. */
public final class ScalesTests {
    private static final int MIN = Integer.MIN_VALUE, MAX = Integer.MAX_VALUE;
    private static final int BAD = -1000001, STATE = -1000002, FULL = -1000003, FAULT = -1000100;

    /** Weights: 12, 8, 3, 6, 14, 4, 8. */
    private static final String SEVEN =
        "s2,3;g7;g4;p0,1,3,18;i0,2,3,20;t1,0,5,15;o1,1,5,9;m0,3,8,0;p0,1,3,6;p1,4,0,20;";

    private static final Check check = new Check("ScalesTests");

    public static void main(String[] args) {
        promise6();
        promise7();
        promise7Faults();
        promise7Numbers();
        promise7Room();
        promise8();
        promise9();
        promise10();
        promise11();
        promise12();
        promise13();
        promise13Weights();
        promise14();
        promise15();
        check.end();
    }

    private static void promise6() {
        check.promise(6, "A byte (0 to 255) comes behind the tape: how many it has.");
        PromiseScales x = new PromiseScales();
        check.due("first", x.feed(0), 1);
        check.due("second", x.feed(255), 2);
        check.promise(6, "BAD; FULL.");
        for (int letter : new int[] {-1, 256, MIN, MAX}) {
            check.due("no byte " + letter, x.feed(letter), BAD);
        }
        check.due("two on it", x.count(8), 2);
        for (int n = 3; n <= 120; n++) {
            check.due("the one after", x.feed(';'), n);
        }
        check.due("full", x.feed(';'), FULL);
        check.due("BAD ahead of FULL", x.feed(256), BAD);
        check.due("120 on it", x.count(8), 120);
        x.scales();
        check.due("room anew", x.feed(255), 1);
        PromiseScales y = new PromiseScales();
        for (int letter = 0; letter <= 255; letter++) {
            check.due("each byte " + letter, y.feed(letter), letter < 120 ? letter + 1 : FULL);
        }
    }

    private static void promise7() {
        check.promise(7, "The tape, empty then, is read: how many PROMISES there are.");
        PromiseScales x = new PromiseScales();
        check.due("a law alone", Check.tell(x, "s0,1;"), 0);
        check.due("empty then", x.count(8), 0);
        check.due("read anew", Check.tell(x, SEVEN), 7);
        check.due("promises", x.count(1), 7);
        check.due("givers", x.count(2), 2);
        check.due("wax", x.count(5), 2);
        check.due("stick", x.count(6), 3);
        x.lay(0, 1);
        x.settle(1, 1);
        x.image(1);
        x.row(2, 2, 2);
        check.promise(7, "all stays, but the tape is empty then, and fault() tells this one.");
        check.due("a fault", Check.tell(x, "s0,1;z"), FAULT - 5);
        check.due("promises stay", x.count(1), 7);
        check.due("the pan stays", x.count(3), 1);
        check.due("settled stays", x.promise(1, 5), 1);
        check.due("acts stay", x.count(7), 2);
        check.due("empty after a fault", x.count(8), 0);
        check.due("fault() tells it", x.fault(), 1);
        check.promise(7, "The tape, empty then, is read: how many PROMISES there are.");
        check.due("in their place", Check.tell(x, "s09,05;g10;g00;p00,05,09,20;p1,0,0,0;"), 2);
        check.due("wax of two figures", x.count(5), 9);
        check.due("stick of two figures", x.count(6), 5);
        check.due("the pan is empty", x.count(3), 0);
        check.due("nothing settled", x.promise(1, 5), 0);
        check.due("no acts", x.count(7), 0);
        check.due("no act to undo", x.undo(), STATE);
        check.due("keeps anew", x.keeps(0), 10);
        check.due("rows stay", x.count(0), 1);
        check.due("images stay", x.restore(1), 1);
        check.due("as it was", x.count(1), 7);
        String text = "s0,1;g5;";
        for (int many = 0; many <= 8; many++) {
            check.due("how many", Check.tell(new PromiseScales(), text), many);
            text += "p0,0,0,0;";
        }
    }

    private static void fault(String text, int place, int number) {
        PromiseScales x = Check.told(SEVEN);
        check.due("\"" + text + "\"", Check.tell(x, text), FAULT - place);
        check.due("\"" + text + "\" fault", x.fault(), number);
        check.due("\"" + text + "\" tape", x.count(8), 0);
        check.due("\"" + text + "\" scales", x.count(1), 7);
    }

    private static void promise7Faults() {
        check.promise(7, "-1000100 less the place of a FAULT:");
        fault("", 0, 1);
        fault("s", 1, 1);
        fault("s1", 2, 1);
        fault("s1,", 3, 1);
        fault("s1,1", 4, 1);
        fault("g5;", 0, 1);
        fault("p0,0,0,0;", 0, 1);
        fault(" s1,1;", 0, 1);
        fault("S1,1;", 0, 1);
        fault("s 1,1;", 1, 1);
        fault("s,1;", 1, 1);
        fault("s1;1;", 2, 1);
        fault("s1,1,", 4, 1);
        fault("s1,;", 3, 1);
        fault("s1,1;s1,1;", 5, 1);
        fault("s1,1;\n", 5, 1);
        fault("s1,1;g", 6, 1);
        fault("s1,1;g5", 7, 1);
        fault("s1,1;g5,", 7, 1);
        fault("s1,1;g;", 6, 1);
        fault("s1,1;gg5;", 6, 1);
        fault("s1,1;g5;p", 9, 1);
        fault("s1,1;g5;p0", 10, 1);
        fault("s1,1;g5;p0;", 10, 1);
        fault("s1,1;g5;p0,0,0,0", 16, 1);
        fault("s1,1;g5;p0,0,0,0,", 16, 1);
        fault("s1,1;g5;p0,0,0;", 14, 1);
        fault("s1,1;g5;p0,0,0,0;g5;", 17, 1);
        fault("s1,1;g5;p0,0,0,0;x0,0,0,0;", 17, 1);
        fault("s1,1;g5;P0,0,0,0;", 8, 1);
        fault("s1,1;g5;5", 8, 1);
        fault("s1,1;g5;;", 8, 1);
        fault("s1,1;g5;p0,0,0,-1;", 15, 1);
    }

    private static void promise7Numbers() {
        fault("s10,1;", 1, 2);
        fault("s100,1;", 1, 1);
        fault("s001,1;", 1, 1);
        fault("s0001", 1, 1);
        fault("s0,0;", 3, 2);
        fault("s0,6;", 3, 2);
        fault("s0,00", 3, 2);
        fault("s0,123;", 3, 1);
        fault("s10", 1, 2);
        fault("s0,1;g11;", 6, 2);
        fault("s0,1;g99x", 6, 2);
        fault("s0,1;g010;", 6, 1);
        fault("s0,1;p0,0,0,0;", 6, 2);
        fault("s0,1;g5;p1,0,0,0;", 9, 2);
        fault("s0,1;g5;g5;g5;g5;p4,0,0,0;", 18, 2);
        fault("s0,1;g5;p0,6,0,0;", 11, 2);
        fault("s0,1;g5;p0,0,10,0;", 13, 2);
        fault("s0,1;g5;p0,0,0,21;", 15, 2);
        fault("s0,1;g5;p0,0,0,200;", 15, 1);
        fault("s0,1;g5;p0,6,0,21;", 11, 2);
        fault("s0,1;123", 5, 1);
    }

    private static void promise7Room() {
        String law = "s0,1;";
        String givers = "g1;g2;g3;g4;";
        String promises = "p0,0,0,0;i1,0,0,0;t2,0,0,0;o3,0,0,0;m0,0,0,0;p1,0,0,0;p2,0,0,0;p3,5,9,20;";
        PromiseScales x = new PromiseScales();
        check.due("eight", Check.tell(x, law + givers + promises), 8);
        check.due("four", x.count(2), 4);
        check.due("the fourth", x.keeps(3), 4);
        check.due("the eighth", x.promise(7, 3), 20);
        fault(law + givers + "g5;", 17, 3);
        fault(law + givers + "g", 17, 3);
        fault(law + givers + "g99;", 17, 3);
        fault(law + givers + promises + "p0,0,0,0;", 90, 3);
        fault(law + givers + promises + "m", 90, 3);
        fault(law + givers + promises + "g", 90, 1);
        fault(law + givers + promises + "s", 90, 1);
        fault(law + givers + "p0,0,0,0;g5;", 26, 1);
    }

    private static void promise8() {
        check.promise(8, "The number of the latest FAULT; 0 before one.");
        PromiseScales x = new PromiseScales();
        check.due("before one", x.fault(), 0);
        Check.tell(x, "s0,1;");
        check.due("none by what is read", x.fault(), 0);
        Check.tell(x, "s0,9;");
        check.due("2", x.fault(), 2);
        Check.tell(x, "s0,1;");
        check.due("2 yet", x.fault(), 2);
        Check.tell(x, "s0,1;g0;g0;g0;g0;g0;");
        check.due("3", x.fault(), 3);
        x.image(0);
        x.restore(0);
        check.due("3 yet", x.fault(), 3);
        x.scales();
        check.due("1", x.fault(), 1);
    }

    private static void promise9() {
        check.promise(9, "A PROMISE is LAID (1), or TAKEN (0): what the PAN READS.");
        PromiseScales x = Check.told(SEVEN);
        check.due("lay 0: 12 and 2, less 2", x.lay(0, 1), 12);
        check.due("lay 1: 20 and 2, less 1", x.lay(1, 1), 21);
        check.due("lay 6: 28 and 2", x.lay(6, 1), 30);
        check.due("take 0: 16 and 2", x.lay(0, 0), 18);
        check.promise(9, "BAD; STATE: it is SETTLED, it is so.");
        check.due("is so", x.lay(1, 1), STATE);
        check.due("is not there", x.lay(0, 0), STATE);
        check.due("never was", x.lay(4, 0), STATE);
        check.due("the pan", x.count(3), 66);
        check.due("acts", x.count(7), 4);
        for (int promise : new int[] {-1, 7, 8, MIN, MAX}) {
            check.due("no such promise " + promise, x.lay(promise, 1), BAD);
        }
        for (int is : new int[] {-1, 2, MIN, MAX}) {
            check.due("neither laid nor taken " + is, x.lay(0, is), BAD);
        }
        x.settle(0, 0);
        check.due("settled", x.lay(0, 1), STATE);
        check.due("settled, taken", x.lay(0, 0), STATE);
        check.due("BAD ahead of STATE", x.lay(0, 2), BAD);
        x.settle(1, 1);
        check.due("settled out of the pan", x.lay(1, 1), STATE);
        check.due("settled out of the pan, taken", x.lay(1, 0), STATE);
        check.due("no scales", new PromiseScales().lay(0, 1), BAD);
        check.due("no promises", Check.told("s0,1;g5;").lay(0, 1), BAD);
        check.due("the last of eight", Check.told("s0,1;g5;" + "p0,0,0,4;".repeat(8)).lay(7, 1), 2);
        check.due("behind the last of eight", Check.told("s0,1;g5;" + "p0,0,0,4;".repeat(8)).lay(8, 1), BAD);
    }

    private static void promise10() {
        check.promise(10, "A PROMISE is KEPT (1), or BROKEN (0): KEEPS of its GIVER.");
        PromiseScales x = Check.told(SEVEN);
        x.lay(0, 1);
        x.lay(1, 1);
        check.due("kept", x.settle(0, 1), 8);
        check.due("no longer in the pan", x.count(3), 2);
        check.due("kept weighs 20", x.promise(0, 4), 20);
        check.due("broken", x.settle(3, 0), 3);
        check.due("broken weighs 0", x.promise(3, 4), 0);
        check.promise(10, "BAD; STATE: it is SETTLED.");
        check.due("again", x.settle(0, 1), STATE);
        check.due("again, the other way", x.settle(0, 0), STATE);
        check.due("again, one broken", x.settle(3, 1), STATE);
        for (int promise : new int[] {-1, 7, 8, MIN, MAX}) {
            check.due("no such promise " + promise, x.settle(promise, 1), BAD);
        }
        for (int kept : new int[] {-1, 2, MIN, MAX}) {
            check.due("neither kept nor broken " + kept, x.settle(1, kept), BAD);
            check.due("ahead of STATE", x.settle(0, kept), BAD);
        }
        check.due("no scales", new PromiseScales().settle(0, 1), BAD);
        check.promise(10, "A PROMISE is KEPT (1), or BROKEN (0): KEEPS of its GIVER.");
        PromiseScales y = Check.told("s0,1;g9;g1;p0,0,0,0;p0,0,0,0;p1,0,0,0;p1,0,0,0;");
        check.due("10", y.settle(0, 1), 10);
        check.due("10 at most", y.settle(1, 1), 10);
        check.due("0", y.settle(2, 0), 0);
        check.due("0 at least", y.settle(3, 0), 0);
    }

    private static void promise11() {
        check.promise(11, "BAD; STATE: no SCALES (ahead of BAD).");
        PromiseScales x = new PromiseScales();
        check.due("no scales", x.wax(0), STATE);
        check.due("no scales, ahead of BAD", x.wax(10), STATE);
        Check.tell(x, SEVEN);
        check.promise(11, "WAX is n (0 to 9): what it was.");
        check.due("it was 2", x.wax(9), 2);
        check.due("it was 9", x.wax(0), 9);
        check.due("the same", x.wax(0), 0);
        check.due("each an act", x.count(7), 3);
        check.promise(11, "BAD; STATE: no SCALES (ahead of BAD).");
        for (int n : new int[] {-1, 10, MIN, MAX}) {
            check.due("no such wax " + n, x.wax(n), BAD);
        }
        check.due("still 0", x.count(5), 0);
        check.due("no act more", x.count(7), 3);
    }

    private static void promise12() {
        check.promise(12, "The latest ACT is undone: how many can be undone yet.");
        PromiseScales x = Check.told(SEVEN);
        x.lay(0, 1);
        x.lay(1, 1);
        x.settle(0, 1);
        x.wax(7);
        x.wax(7);
        x.lay(1, 0);
        x.settle(3, 0);
        check.due("seven acts", x.count(7), 7);
        check.due("broken undone", x.undo(), 6);
        check.due("not settled", x.promise(3, 5), 0);
        check.due("keeps as it was", x.keeps(1), 4);
        check.due("taken undone", x.undo(), 5);
        check.due("in the pan", x.count(3), 2);
        check.due("the same wax undone", x.undo(), 4);
        check.due("wax 7 yet", x.count(5), 7);
        check.due("wax undone", x.undo(), 3);
        check.due("wax 2", x.count(5), 2);
        check.due("kept undone", x.undo(), 2);
        check.due("back in the pan", x.count(3), 3);
        check.due("back to 7", x.keeps(0), 7);
        check.due("back to 12", x.promise(0, 4), 12);
        check.due("laid undone", x.undo(), 1);
        check.due("the other laid undone", x.undo(), 0);
        check.due("an empty pan", x.count(3), 0);
        undoOfMany();
        undoAtTheEnds();
        noneToUndo(x);
    }

    private static void noneToUndo(PromiseScales x) {
        check.promise(12, "STATE: none.");
        check.due("none more", x.undo(), STATE);
        check.due("no scales", new PromiseScales().undo(), STATE);
        check.due("none yet", Check.told(SEVEN).undo(), STATE);
        x.wax(3);
        x.image(0);
        check.due("an image leaves the one", x.undo(), 0);
        x.wax(3);
        x.restore(0);
        check.due("none when restored", x.undo(), STATE);
        x.wax(3);
        Check.tell(x, "s0,1;");
        check.due("none of other scales", x.undo(), STATE);
        x.wax(3);
        Check.tell(x, "s0,0;");
        check.due("a fault leaves the one", x.undo(), 0);
    }

    private static void undoOfMany() {
        PromiseScales x = Check.told("s0,1;g5;p0,0,0,20;");
        x.wax(9);
        x.wax(8);
        for (int n = 0; n < 24; n++) {
            x.wax(n % 7);
        }
        check.due("24 at most", x.count(7), 24);
        for (int left = 23; left >= 1; left--) {
            check.due("undone", x.undo(), left);
            check.due("wax", x.count(5), (left - 1) % 7);
        }
        check.due("the last", x.undo(), 0);
        check.due("what was before the oldest of them", x.count(5), 8);
        check.due("the oldest is forgotten", x.undo(), STATE);
    }

    private static void undoAtTheEnds() {
        PromiseScales x = Check.told("s0,1;g10;g0;p0,0,0,0;p1,0,0,0;");
        x.settle(0, 1);
        x.settle(1, 0);
        x.undo();
        x.undo();
        check.due("10 is 10", x.keeps(0), 10);
        check.due("0 is 0", x.keeps(1), 0);
        check.due("it is not settled", x.promise(0, 5), 0);
        check.due("nor is the other", x.promise(1, 5), 0);
        check.due("and can be settled", x.settle(0, 0), 9);
    }

    private static void promise13() {
        check.promise(13, "Of a PROMISE: 0 GIVER, 1 DEED, 2 DAY, 3 LIKELY, 4 WEIGHT, 5 not SETTLED (0), KEPT (1), BROKEN (2), "
            + "6 whether it is in the PAN (1, 0).");
        PromiseScales x = Check.told(SEVEN);
        int[][] want = {
            {0, 1, 3, 18, 12, 0, 0}, {0, 2, 3, 20, 8, 0, 0}, {1, 0, 5, 15, 3, 0, 0}, {1, 1, 5, 9, 6, 0, 0},
            {0, 3, 8, 0, 14, 0, 0}, {0, 1, 3, 6, 4, 0, 0}, {1, 4, 0, 20, 8, 0, 0}};
        for (int promise = 0; promise < 7; promise++) {
            for (int what = 0; what < 7; what++) {
                check.due("promise " + promise + " " + what, x.promise(promise, what), want[promise][what]);
            }
        }
        x.lay(2, 1);
        x.settle(0, 0);
        x.settle(4, 1);
        check.due("in the pan", x.promise(2, 6), 1);
        check.due("broken", x.promise(0, 5), 2);
        check.due("kept", x.promise(4, 5), 1);
        check.promise(13, "BAD.");
        check.due("no scales", new PromiseScales().promise(0, 0), BAD);
        for (int promise : new int[] {-1, 7, 8, MIN, MAX}) {
            check.due("no such promise " + promise, x.promise(promise, 0), BAD);
        }
        for (int what : new int[] {-1, 7, MIN, MAX}) {
            check.due("no such thing " + what, x.promise(0, what), BAD);
        }
    }

    /** The weight of a promise in scales of a text. */
    private static void weighs(String text, int promise, int want) {
        check.due(text + " weight " + promise, Check.told(text).promise(promise, 4), want);
    }

    private static void promise13Weights() {
        weighs("s0,1;g9;p0,0,0,19;", 0, 17);
        weighs("s0,1;g0;p0,0,0,20;", 0, 0);
        weighs("s0,1;g10;p0,0,0,20;", 0, 20);
        weighs("s0,1;g7;i0,0,0,19;", 0, 13);
        weighs("s0,1;g7;p0,0,0,19;i0,0,0,19;", 1, 8);
        weighs("s0,1;g7;p0,0,0,19;i0,0,0,19;i0,0,0,20;", 2, 5);
        weighs("s0,1;g7;t0,0,0,19;", 0, 7);
        weighs("s0,1;g6;t0,0,0,20;", 0, 6);
        weighs("s0,1;g3;t0,0,0,4;", 0, 1);
        weighs("s0,1;g10;t0,0,0,0;", 0, 0);
        weighs("s0,1;g7;o0,0,0,9;", 0, 12);
        weighs("s0,1;g6;o0,0,0,17;", 0, 20);
        weighs("s0,1;g10;o0,0,0,20;", 0, 20);
        weighs("s0,1;g5;m0,0,0,7;", 0, 20);
        weighs("s0,1;g5;m0,0,0,7;m0,0,0,7;", 1, 0);
        weighs("s0,1;g5;p0,0,0,15;m0,0,0,7;m0,0,0,7;", 2, 7);
        PromiseScales x = Check.told("s0,1;g5;p0,0,0,10;i0,0,0,20;m0,0,0,0;");
        check.due("an if, 10 by 5", x.promise(1, 4), 2);
        check.due("about it", x.promise(2, 4), 18);
        x.settle(0, 1);
        check.due("an if, 12 by 20", x.promise(1, 4), 12);
        check.due("about that", x.promise(2, 4), 8);
        x.settle(1, 0);
        check.due("about one broken", x.promise(2, 4), 20);
    }

    private static void promise14() {
        check.promise(14, "KEEPS of a GIVER.");
        PromiseScales x = Check.told(SEVEN);
        check.due("first", x.keeps(0), 7);
        check.due("second", x.keeps(1), 4);
        x.settle(2, 1);
        check.due("second, by one kept", x.keeps(1), 5);
        check.due("the last of four", Check.told("s0,1;g5;g6;g0;g10;").keeps(3), 10);
        check.due("the one ahead of it", Check.told("s0,1;g5;g6;g0;g10;").keeps(2), 0);
        check.promise(14, "BAD.");
        check.due("no scales", new PromiseScales().keeps(0), BAD);
        check.due("no givers", Check.told("s0,1;").keeps(0), BAD);
        check.due("behind the last of four", Check.told("s0,1;g5;g6;g0;g10;").keeps(4), BAD);
        for (int giver : new int[] {-1, 2, 4, MIN, MAX}) {
            check.due("no such giver " + giver, x.keeps(giver), BAD);
        }
    }

    private static void promise15() {
        check.promise(15, "What a set of PROMISES (SETTLED ones, too) READS.");
        PromiseScales x = Check.told(SEVEN);
        check.due("empty", x.reads(0), 0);
        check.due("12 and 2, less 2", x.reads(1), 12);
        check.due("3 and 2, less 2", x.reads(4), 3);
        check.due("all, 55 and 2", x.reads(127), 57);
        x.settle(0, 1);
        check.due("a kept one, 20 and 2", x.reads(1), 21);
        x.settle(3, 0);
        check.due("a broken one", x.reads(8), 0);
        check.due("both, 20 and 2", x.reads(9), 21);
        check.due("all, 20, 16, 2, 0, 20, 4, 6 (keeps 8, 3) and 2, less 1", x.reads(127), 69);
        check.due("no promises", Check.told("s9,4;").reads(0), 8);
        check.due("stick 1", Check.told("s9,1;").reads(0), 9);
        check.due("stick 5", Check.told("s9,5;").reads(0), 5);
        check.promise(15, "BAD: no such set; STATE: no SCALES (ahead of BAD).");
        for (int set : new int[] {-1, 128, 129, 255, 256, MIN, MAX}) {
            check.due("no such set " + set, x.reads(set), BAD);
            check.due("no scales, ahead of BAD " + set, new PromiseScales().reads(set), STATE);
        }
        check.due("no scales", new PromiseScales().reads(0), STATE);
        check.due("no such set of none", Check.told("s9,4;").reads(1), BAD);
        PromiseScales eight = Check.told("s0,1;g10;" + "p0,0,0,4;".repeat(8));
        check.due("the set of eight", eight.reads(255), 32);
        check.due("beyond eight", eight.reads(256), BAD);
    }
}
