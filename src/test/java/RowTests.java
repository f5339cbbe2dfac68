/** Promises 1 to 5 and 34: a new object, rows, and status() of the calls with rows. */
public final class RowTests {
    private static final int MIN = Integer.MIN_VALUE, MAX = Integer.MAX_VALUE;
    private static final int NONE = -1000000, BAD = -1000001, STATE = -1000002, FULL = -1000003;
    private static final int NULL = -1000011, PLACE = -1000012, KIND = -1000013, SIZE = -1000014, STORE = -1000015;
    private static final int[] NO_ROWS = {-1, 8, MIN, MAX};

    private static final Check check = new Check("RowTests");

    public static void main(String[] args) {
        face();
        promise1();
        promise2();
        promise2Refusals();
        promise3();
        promise3Refusals();
        promise4();
        promise4Refusals();
        promise5();
        promise34();
        check.end();
    }

    private static void face() {
        check.due("NONE", PromiseScales.NONE, NONE);
        check.due("BAD", PromiseScales.BAD, BAD);
        check.due("STATE", PromiseScales.STATE, STATE);
        check.due("FULL", PromiseScales.FULL, FULL);
    }

    private static void promise1() {
        check.promise(1, "No SCALES.");
        PromiseScales x = new PromiseScales();
        for (int what = 0; what <= 8; what++) {
            check.due("new count " + what, x.count(what), 0);
        }
        check.due("new status", x.status(), 0);
        check.due("new fault", x.fault(), 0);
        check.due("new trace", x.trace(0), NONE);
        check.due("new undo", x.undo(), STATE);
        check.due("new clash", x.clash(0), STATE);
        check.due("new reads", x.reads(0), STATE);
        check.due("new keeps", x.keeps(0), BAD);
        check.due("new kind", x.kind(0), BAD);
        check.due("new restore", x.restore(0), STATE);
        check.due("new image", x.image(0), STATE);
        check.due("new wax", x.wax(0), STATE);
        check.due("new bags", x.bags(0, 0), STATE);
        check.due("new heaviest", x.heaviest(0, 0), STATE);
        check.due("new found", x.found(0, 0, 1, 0), STATE);
        check.due("new promise", x.promise(0, 0), BAD);
        check.due("new lay", x.lay(0, 1), BAD);
        check.due("new settle", x.settle(0, 1), BAD);
        check.due("new prices", x.prices(0, 0), BAD);
        for (int row = 0; row < 8; row++) {
            check.due("new drop " + row, x.drop(row), NULL);
        }
    }

    private static void promise2() {
        check.promise(2, "A ROW of a LANE with n ITEMS, in place of what is there: n.");
        PromiseScales x = new PromiseScales();
        check.due("row of none", x.row(0, 0, 0), 0);
        check.due("row of 40", x.row(7, 2, 40), 40);
        check.due("row of shorts", x.row(3, 1, 5), 5);
        check.due("three rows", x.count(0), 3);
        check.due("last item", x.set(3, 4, 9), 9);
        check.due("first item", x.set(3, 0, 9), 9);
        check.due("in its place", x.row(3, 1, 5), 5);
        check.due("still three rows", x.count(0), 3);
        Check.tell(x, "s0,1;");
        x.set(3, 0, 9);
        x.set(3, 1, 9);
        x.row(3, 1, 6);
        for (int i = 0; i < 6; i += 2) {
            check.due("items are 0 anew", x.found(3, i, 1, 0), 1);
        }
        check.due("of another lane, in its place", x.row(3, 0, 2), 2);
        check.due("a byte now", x.set(3, 1, 128), -128);
        check.due("no third", x.set(3, 2, 0), PLACE);
        check.due("of none, in its place", x.row(3, 2, 0), 0);
        check.due("no first", x.set(3, 0, 0), PLACE);
        check.due("there it is all the same", x.drop(3), 0);
    }

    private static void promise2Refusals() {
        check.promise(2, "BAD: ROW, LANE, n above 40; SIZE.");
        PromiseScales x = new PromiseScales();
        check.due("40 items", x.row(7, 2, 40), 40);
        for (int row : NO_ROWS) {
            check.due("no such row " + row, x.row(row, 0, 1), BAD);
            check.due("no such row, ahead of SIZE", x.row(row, 0, -1), BAD);
        }
        for (int lane : new int[] {-1, 3, MIN, MAX}) {
            check.due("no such lane " + lane, x.row(0, lane, 1), BAD);
            check.due("no such lane, ahead of SIZE", x.row(0, lane, -1), BAD);
        }
        check.due("41 items", x.row(0, 0, 41), BAD);
        check.due("very many items", x.row(0, 0, MAX), BAD);
        check.due("fewer than none", x.row(7, 0, -1), SIZE);
        check.due("far fewer than none", x.row(7, 0, MIN), SIZE);
        check.due("nothing changed by it", x.drop(7), 40);
    }

    private static void promise3() {
        check.promise(3, "ITEM i becomes v, its lowest bits, as many as the LANE has (read with their sign): what it is then.");
        PromiseScales x = new PromiseScales();
        x.row(0, 0, 2);
        x.row(1, 1, 2);
        x.row(2, 2, 2);
        check.due("byte 127", x.set(0, 0, 127), 127);
        check.due("byte 128", x.set(0, 0, 128), -128);
        check.due("byte 256", x.set(0, 0, 256), 0);
        check.due("byte -129", x.set(0, 1, -129), 127);
        check.due("short 32767", x.set(1, 0, 32767), 32767);
        check.due("short 32768", x.set(1, 0, 32768), -32768);
        check.due("short 65536", x.set(1, 1, 65536), 0);
        check.due("short 128", x.set(1, 1, 128), 128);
        check.due("int least", x.set(2, 0, MIN), MIN);
        check.due("int most", x.set(2, 1, MAX), MAX);
        check.due("byte of the least int", x.set(0, 0, MIN), 0);
        check.due("byte of the most", x.set(0, 0, MAX), -1);
        check.due("byte -128", x.set(0, 0, -128), -128);
        check.due("byte 255", x.set(0, 0, 255), -1);
        check.due("short of the least int", x.set(1, 0, MIN), 0);
        check.due("short of the most", x.set(1, 0, MAX), -1);
        check.due("short -32768", x.set(1, 0, -32768), -32768);
        check.due("short -32769", x.set(1, 0, -32769), 32767);
        for (int v = -128; v <= 127; v++) {
            check.due("byte " + v + " and 512", x.set(0, 1, v + 512), v);
        }
        itemBecomes();
    }

    private static void itemBecomes() {
        PromiseScales x = Check.told("s0,1;");
        Check.put(x, 0, 0, 0, 0, 0);
        x.set(0, 1, 5);
        x.set(0, 3, 9);
        items(x, "set", 0, 0, 5, 0, 9);
        x.set(0, 1, 6);
        items(x, "set again", 0, 0, 6, 0, 9);
    }

    private static void promise3Refusals() {
        check.promise(3, "BAD: ROW; NULL; PLACE.");
        PromiseScales x = new PromiseScales();
        x.row(2, 2, 2);
        for (int row : NO_ROWS) {
            check.due("no such row " + row, x.set(row, 0, 1), BAD);
        }
        check.due("a missing row", x.set(3, 0, 1), NULL);
        check.due("a missing row, ahead of the place", x.set(3, -1, 1), NULL);
        for (int place : new int[] {-1, 2, 40, MIN, MAX}) {
            check.due("no such place " + place, x.set(2, place, 1), PLACE);
        }
        x.row(4, 2, 0);
        check.due("no place at all", x.set(4, 0, 1), PLACE);
        check.due("the first place", x.set(2, 0, 1), 1);
        check.due("the last place", x.set(2, 1, 1), 1);
        x.row(4, 2, 40);
        check.due("the last place of 40", x.set(4, 39, 1), 1);
        check.due("the place behind 40", x.set(4, 40, 1), PLACE);
    }

    /** Tells what stands in a row of ints, by the wax that reads it: all are 0 to 9. */
    private static void items(PromiseScales x, String what, int row, int... want) {
        for (int i = 0; i < want.length; i++) {
            x.row(6, 2, 2);
            check.due(what + " copied out", x.copy(row, i, 6, 1, 1), 1);
            check.due(what + " item " + i, x.found(6, 0, 1, 0), 1 << want[i]);
        }
    }

    private static void promise4() {
        check.promise(4, "n ITEMS of a from i on come to b from j on, as they were ahead: n.");
        PromiseScales x = Check.told("s0,1;");
        Check.put(x, 0, 1, 2, 3, 4, 5);
        Check.put(x, 1, 9, 9, 9, 9);
        check.due("copy", x.copy(0, 1, 1, 2, 2), 2);
        items(x, "to another", 1, 9, 9, 2, 3);
        items(x, "from one", 0, 1, 2, 3, 4, 5);
        check.due("copy up within", x.copy(0, 0, 0, 1, 4), 4);
        items(x, "up within", 0, 1, 1, 2, 3, 4);
        check.due("copy down within", x.copy(0, 1, 0, 0, 4), 4);
        items(x, "down within", 0, 1, 2, 3, 4, 4);
        check.due("all", x.copy(0, 0, 0, 0, 5), 5);
        check.due("none at the ends", x.copy(0, 5, 1, 4, 0), 0);
        x.row(2, 2, 40);
        x.row(3, 2, 40);
        x.set(2, 0, 8);
        x.set(2, 39, 7);
        check.due("all of 40", x.copy(2, 0, 3, 0, 40), 40);
        x.copy(3, 39, 3, 1, 1);
        items(x, "all of 40", 3, 8, 7, 0);
        for (int lane = 0; lane <= 1; lane++) {
            x.row(4, lane, 1);
            x.row(5, lane, 1);
            x.set(4, 0, 0x8080);
            check.due("one of lane " + lane, x.copy(4, 0, 5, 0, 1), 1);
        }
    }

    private static void promise4Refusals() {
        check.promise(4, "BAD: ROWS; NULL; STORE; PLACE (i, j, n below 0, or beyond an end).");
        PromiseScales x = Check.told("s0,1;");
        Check.put(x, 0, 1, 2, 3, 4, 5);
        Check.put(x, 1, 9, 9, 2, 3);
        check.due("none at the ends", x.copy(0, 5, 1, 4, 0), 0);
        check.due("none beyond an end", x.copy(0, 6, 1, 4, 0), PLACE);
        check.due("none beyond the other end", x.copy(0, 5, 1, 5, 0), PLACE);
        check.due("beyond an end", x.copy(0, 4, 1, 0, 2), PLACE);
        check.due("beyond the other end", x.copy(0, 0, 1, 3, 2), PLACE);
        check.due("i below 0", x.copy(0, -1, 1, 0, 1), PLACE);
        check.due("j below 0", x.copy(0, 0, 1, -1, 1), PLACE);
        check.due("n below 0", x.copy(0, 0, 1, 0, -1), PLACE);
        check.due("n below 0 within", x.copy(0, 3, 1, 3, -1), PLACE);
        for (int far : new int[] {MIN, MIN + 1, MAX, MAX - 1}) {
            check.due("i far off", x.copy(0, far, 1, 0, 1), PLACE);
            check.due("j far off", x.copy(0, 0, 1, far, 1), PLACE);
            check.due("n far off", x.copy(0, 0, 1, 0, far), PLACE);
            check.due("all far off", x.copy(0, far, 1, far, far), PLACE);
            check.due("that wraps around", x.copy(0, 1, 1, 1, far), PLACE);
        }
        x.row(2, 1, 4);
        check.due("two lanes", x.copy(0, 0, 2, 0, 1), STORE);
        check.due("two lanes, ahead of the place", x.copy(0, 9, 2, 9, 9), STORE);
        check.due("two lanes, and none", x.copy(0, 0, 2, 0, 0), STORE);
        check.due("missing", x.copy(3, 0, 0, 0, 1), NULL);
        check.due("the other missing", x.copy(0, 0, 3, 0, 1), NULL);
        check.due("missing, ahead of the place", x.copy(2, -1, 3, -1, 1), NULL);
        for (int row : NO_ROWS) {
            check.due("no such row " + row, x.copy(row, 0, 0, 0, 1), BAD);
            check.due("no such other row " + row, x.copy(0, 0, row, 0, 1), BAD);
            check.due("no such row, ahead of NULL", x.copy(3, 0, row, 0, 1), BAD);
        }
        items(x, "what was refused changed nothing", 1, 9, 9, 2, 3);
    }

    private static void promise5() {
        check.promise(5, "A ROW is missing from now on: how many ITEMS it had.");
        PromiseScales x = new PromiseScales();
        x.row(5, 1, 7);
        x.row(6, 1, 0);
        check.due("drop", x.drop(5), 7);
        check.due("drop one of none", x.drop(6), 0);
        check.due("missing then", x.drop(5), NULL);
        check.due("missing for others", x.set(5, 0, 0), NULL);
        check.due("no rows", x.count(0), 0);
        x.row(5, 2, 40);
        check.due("drop one of 40", x.drop(5), 40);
        x.row(5, 2, 2);
        check.due("made anew, its items are 0", x.set(5, 1, 3), 3);
        check.promise(5, "BAD; NULL.");
        check.due("drop a missing one", x.drop(0), NULL);
        check.due("and the last", x.drop(7), NULL);
        for (int row : NO_ROWS) {
            check.due("no such row " + row, x.drop(row), BAD);
        }
    }

    private static void promise34() {
        check.promise(34, "Of the latest call with a ROW, or as(), that was not BAD, STATE, FULL: the number of its FINDING; "
            + "0: it had none, or there was none.");
        PromiseScales x = Check.told("s0,1;g5;p0,0,0,20;");
        check.due("none yet", x.status(), 0);
        x.row(0, 0, -1);
        check.due("SIZE", x.status(), 4);
        x.row(9, 0, 0);
        x.set(-1, 0, 0);
        x.copy(0, 0, 8, 0, 0);
        x.drop(8);
        x.found(0, 0, 9, 0);
        x.keepsFound(1, 0, 0);
        x.as(0, 6);
        x.as(1, 0);
        check.due("BAD leaves it", x.status(), 4);
        x.lay(0, 1);
        x.count(0);
        x.scales();
        check.due("calls with no row leave it", x.status(), 4);
        x.row(0, 0, 4);
        check.due("row", x.status(), 0);
        x.drop(1);
        check.due("NULL", x.status(), 1);
        x.set(0, 0, 1);
        check.due("set", x.status(), 0);
        x.set(0, 4, 1);
        check.due("PLACE", x.status(), 2);
        x.copy(0, 0, 0, 0, 1);
        check.due("copy", x.status(), 0);
        x.as(0, 5);
        check.due("KIND", x.status(), 3);
        x.as(0, 1);
        check.due("as", x.status(), 0);
        x.row(1, 1, 1);
        x.copy(0, 0, 1, 0, 1);
        check.due("STORE", x.status(), 5);
        x.drop(1);
        check.due("drop", x.status(), 0);
        x.found(1, 0, 1, 0);
        check.due("found NULL", x.status(), 1);
        x.set(0, 0, -1);
        x.drop(1);
        check.due("found BAD at last", x.found(0, 0, 1, 0), BAD);
        check.due("and it is left", x.status(), 1);
        x.set(0, 0, 0);
        x.found(0, 3, 1, 0);
        check.due("found PLACE", x.status(), 2);
        x.found(0, 0, 1, 0);
        check.due("found", x.status(), 0);
        x.keepsFound(0, 0, 9);
        check.due("keepsFound PLACE", x.status(), 2);
        x.keepsFound(0, 0, 0);
        check.due("keepsFound", x.status(), 0);
        fill(x);
        PromiseScales y = new PromiseScales();
        y.drop(0);
        check.due("STATE", y.found(0, 0, 1, 0), STATE);
        check.due("STATE leaves it", y.status(), 1);
    }

    /** FULL leaves what there was, and so does what comes ahead of it. */
    private static void fill(PromiseScales x) {
        x.row(0, 0, -1);
        for (int n = 0; n < 120; n++) {
            x.feed(0);
        }
        check.due("a byte", x.status(), 4);
        check.due("FULL", x.feed(0), FULL);
        check.due("FULL leaves it", x.status(), 4);
        x.wax(10);
        x.lay(0, 0);
        x.undo();
        x.image(2);
        x.restore(1);
        x.trace(-1);
        x.count(9);
        check.due("other refusals leave it", x.status(), 4);
    }
}
