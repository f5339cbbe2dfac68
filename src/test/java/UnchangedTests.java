import java.util.ArrayList;
import java.util.List;
import java.util.function.Supplier;

/**
 * What leaves all else as it was: calls that are refused, or find something; what is foretold; what
 * is told alone. Two objects live alike, one of them is called once more, and both are asked for all.
 */
public final class UnchangedTests {
    private static final int MIN = Integer.MIN_VALUE, MAX = Integer.MAX_VALUE;
    private static final int BAD = -1000001, STATE = -1000002, FULL = -1000003;
    private static final int NULL = -1000011, PLACE = -1000012, KIND = -1000013, SIZE = -1000014, STORE = -1000015;

    private interface Call {
        int on(PromiseScales x);
    }

    private static final Check check = new Check("UnchangedTests");

    private static Supplier<PromiseScales> life;

    public static void main(String[] args) {
        for (Supplier<PromiseScales> each : List.<Supplier<PromiseScales>>of(UnchangedTests::lived, UnchangedTests::full)) {
            life = each;
            check.terms(0, "What is refused, or found, changes nothing but status().");
            badRows();
            badActs();
            badForetold();
            badAsked();
            states();
            findings();
            foretold();
            told();
        }
        life = UnchangedTests::full;
        check.terms(0, "What is refused, or found, changes nothing but status().");
        fullTape();
        life = UnchangedTests::bare;
        withoutScales();
        check.promise(7, "all stays, but the tape is empty then, and fault() tells this one.");
        life = UnchangedTests::livedWithoutTape;
        faults();
        life = UnchangedTests::bareWithoutTape;
        faults();
        check.end();
    }

    // ---- lives

    /** Some of all: rows, images, acts, settled ones, a pan, a trace, a fault, a finding, a tape. */
    private static PromiseScales lived() {
        PromiseScales x = livedWithoutTape();
        Check.feed(x, "s4");
        return x;
    }

    private static PromiseScales livedWithoutTape() {
        PromiseScales x = new PromiseScales();
        Check.tell(x, "s");
        Check.tell(x, "s2,3;g7;g4;p0,1,3,18;i0,2,3,20;t1,0,5,15;o1,1,5,9;m0,3,8,4;");
        makeRows(x);
        x.lay(0, 1);
        x.image(0);
        x.settle(1, 0);
        x.lay(2, 1);
        x.wax(5);
        x.image(1);
        x.lay(2, 0);
        x.settle(3, 1);
        x.wax(6);
        x.ask(0, 0);
        x.as(0, 5);
        return x;
    }

    private static void makeRows(PromiseScales x) {
        x.row(0, 0, 6);
        x.row(1, 1, 2);
        for (int i = 0; i < 6; i++) {
            x.set(0, i, i == 2 ? 0 : i + 1);
        }
        x.set(1, 0, 7);
        x.set(1, 1, 8);
        x.row(2, 2, 0);
        x.row(7, 0, 3);
        x.set(7, 1, 9);
    }

    /** As full as can be: givers, promises, acts, the tape; and one image alone. */
    private static PromiseScales full() {
        PromiseScales x = new PromiseScales();
        Check.tell(x, "s9,5;g10;g0;g5;g1;" + "p0,5,9,20;m1,0,9,0;o2,0,0,7;i2,0,0,20;" + "t3,1,0,20;m0,4,9,1;p2,4,9,0;p0,5,9,20;");
        makeRows(x);
        x.settle(1, 1);
        x.image(1);
        for (int act = 0; act < 28; act++) {
            x.lay(7 - act % 4, 1 - act / 4 % 2);
        }
        x.settle(3, 0);
        Check.feed(x, "s4,1;" + ";".repeat(115));
        x.as(0, 5);
        x.ask(4, 0);
        return x;
    }

    /** No scales yet, but rows, a tape, a fault, a finding. */
    private static PromiseScales bare() {
        PromiseScales x = bareWithoutTape();
        Check.feed(x, "s4");
        return x;
    }

    private static PromiseScales bareWithoutTape() {
        PromiseScales x = new PromiseScales();
        Check.tell(x, "s");
        makeRows(x);
        x.set(0, 6, 0);
        return x;
    }

    // ---- twins

    /** All that can be asked, at first by what changes nothing, then by what does. */
    private static List<Integer> all(PromiseScales x) {
        List<Integer> all = new ArrayList<>();
        all.add(x.fault());
        for (int i = 0; i < 6; i++) {
            all.add(x.trace(i));
        }
        promises(x, all);
        scales(x, all);
        for (int left = x.count(7); left > 0; left--) {
            all.add(x.undo());
            all.add(x.count(3));
        }
        all.add(x.keeps(0));
        for (int k = 0; k <= 1; k++) {
            all.add(x.restore(k));
            scales(x, all);
        }
        all.add(x.feed(','));
        Check.feed(x, "1;");
        all.add(x.scales());
        all.add(x.fault());
        all.add(x.count(5));
        rows(x, all);
        return all;
    }

    private static void scales(PromiseScales x, List<Integer> all) {
        for (int what = 0; what <= 8; what++) {
            all.add(x.count(what));
        }
        for (int g = 0; g < 4; g++) {
            all.add(x.keeps(g));
        }
        for (int p = 0; p < 8; p++) {
            all.add(x.promise(p, 4));
            all.add(x.promise(p, 5));
        }
    }

    private static void promises(PromiseScales x, List<Integer> all) {
        for (int p = 0; p < 8; p++) {
            all.add(x.kind(p));
            all.add(x.promise(p, p % 4));
        }
    }

    /** The items, by the wax that they are what no promises read by it; the lanes; how many. */
    private static void rows(PromiseScales x, List<Integer> all) {
        Check.tell(x, "s0,1;");
        items(x, all, 0, 6);
        items(x, all, 1, 2);
        items(x, all, 7, 3);
        for (int r = 0; r < 8; r++) {
            all.add(x.set(r, 0, 0x12348180));
            all.add(x.drop(r));
        }
    }

    private static void items(PromiseScales x, List<Integer> all, int r, int n) {
        for (int i = 0; i < n; i++) {
            x.row(5, r == 1 ? 1 : 0, 2);
            all.add(x.copy(r, i, 5, 1, 1));
            all.add(x.found(5, 0, 1, 0));
        }
        x.drop(5);
    }

    private static void unchanged(String what, Call call, int want, int status) {
        PromiseScales x = life.get();
        check.due(what, call.on(x), want);
        check.due(what + ": status()", x.status(), status);
        check.holds(what + ": all else is as it was", all(x).equals(all(life.get())));
    }

    /** A call that is refused leaves status(), too. */
    private static void refused(String what, Call call, int want) {
        unchanged(what, call, want, life.get().status());
    }

    private static void bad(String what, Call call) {
        refused(what, call, BAD);
    }

    private static int[] outside(int least, int most) {
        return new int[] {least - 1, most + 1, MIN, MAX};
    }

    // ---- BAD

    private static void badRows() {
        for (int r : outside(0, 7)) {
            bad("row(" + r + ", 0, 1)", x -> x.row(r, 0, 1));
            bad("row(" + r + ", 0, -1)", x -> x.row(r, 0, -1));
            bad("set(" + r + ", 0, 5)", x -> x.set(r, 0, 5));
            bad("copy(" + r + ", 0, 0, 0, 1)", x -> x.copy(r, 0, 0, 0, 1));
            bad("copy(0, 0, " + r + ", 0, 1)", x -> x.copy(0, 0, r, 0, 1));
            bad("drop(" + r + ")", x -> x.drop(r));
            bad("found(" + r + ", 0, 1, 0)", x -> x.found(r, 0, 1, 0));
            bad("keepsFound(0, " + r + ", 0)", x -> x.keepsFound(0, r, 0));
        }
        for (int lane : outside(0, 2)) {
            bad("row(0, " + lane + ", 1)", x -> x.row(0, lane, 1));
        }
        bad("row(0, 0, 41)", x -> x.row(0, 0, 41));
        bad("row(0, 0, MAX)", x -> x.row(0, 0, MAX));
        for (int n : outside(1, 8)) {
            bad("found(0, 0, " + n + ", 0)", x -> x.found(0, 0, n, 0));
        }
        for (int what : outside(0, 1)) {
            bad("found(0, 0, 1, " + what + ")", x -> x.found(0, 0, 1, what));
        }
        bad("found by no set below 0", x -> notASet(x, -1));
        bad("found by no set above all", x -> notASet(x, 1 << x.count(1)));
    }

    /** Asks what is found by a set, in a row that is made and dropped for it. */
    private static int notASet(PromiseScales x, int set) {
        x.row(3, 2, 2);
        x.set(3, 0, set);
        x.as(0, 5);
        int answer = x.found(3, 0, 1, 0);
        int status = x.status();
        x.drop(3);
        // As it was ahead, if found() left it.
        x.as(0, status == 3 ? 5 : 0);
        return answer;
    }

    private static void badActs() {
        int promises = life.get().count(1);
        for (int letter : outside(0, 255)) {
            bad("feed(" + letter + ")", x -> x.feed(letter));
        }
        for (int p : outside(0, promises - 1)) {
            bad("lay(" + p + ", 1)", x -> x.lay(p, 1));
            bad("lay(" + p + ", 0)", x -> x.lay(p, 0));
            bad("settle(" + p + ", 1)", x -> x.settle(p, 1));
            bad("settle(" + p + ", 0)", x -> x.settle(p, 0));
            bad("promise(" + p + ", 0)", x -> x.promise(p, 0));
        }
        for (int is : outside(0, 1)) {
            bad("lay(2, " + is + ")", x -> x.lay(2, is));
            bad("settle(2, " + is + ")", x -> x.settle(2, is));
        }
        for (int n : outside(0, 9)) {
            bad("wax(" + n + ")", x -> x.wax(n));
        }
        for (int what : outside(0, 6)) {
            bad("promise(0, " + what + ")", x -> x.promise(0, what));
        }
        for (int g : outside(0, life.get().count(2) - 1)) {
            bad("keeps(" + g + ")", x -> x.keeps(g));
        }
        for (int set : outside(0, (1 << promises) - 1)) {
            bad("reads(" + set + ")", x -> x.reads(set));
        }
    }

    private static void badForetold() {
        for (int what : outside(0, 1)) {
            bad("clash(" + what + ")", x -> x.clash(what));
            bad("bags(6, " + what + ")", x -> x.bags(6, what));
            bad("heaviest(1, " + what + ")", x -> x.heaviest(1, what));
            bad("settles(0, 10, " + what + ")", x -> x.settles(0, 10, what));
            bad("free(1, 1, " + what + ")", x -> x.free(1, 1, what));
            bad("image(" + what + ")", x -> x.image(what));
            bad("restore(" + what + ")", x -> x.restore(what));
        }
        for (int n : outside(0, 8)) {
            bad("heaviest(" + n + ", 0)", x -> x.heaviest(n, 0));
            bad("free(1, " + n + ", 0)", x -> x.free(1, n, 0));
        }
        for (int g : outside(0, life.get().count(2) - 1)) {
            bad("prices(" + g + ", 1)", x -> x.prices(g, 1));
            bad("settles(" + g + ", 1, 0)", x -> x.settles(g, 1, 0));
            bad("bestHeavy(" + g + ")", x -> x.bestHeavy(g));
            bad("keepsFound(" + g + ", 0, 0)", x -> x.keepsFound(g, 0, 0));
        }
        for (int p : outside(0, life.get().count(1) - 1)) {
            bad("worded(" + p + ", 1)", x -> x.worded(p, 1));
            bad("price(" + p + ", 1)", x -> x.price(p, 1));
        }
        for (int v : outside(0, 999)) {
            bad("price(0, " + v + ")", x -> x.price(0, v));
            bad("prices(0, " + v + ")", x -> x.prices(0, v));
        }
        for (int v : outside(0, 200)) {
            bad("bags(" + v + ", 0)", x -> x.bags(v, 0));
        }
        for (int kind : outside(0, 5)) {
            bad("worded(2, " + kind + ")", x -> x.worded(2, kind));
        }
        for (int h : outside(0, 20)) {
            bad("settles(0, " + h + ", 0)", x -> x.settles(0, h, 0));
        }
        for (int c : outside(0, 10)) {
            bad("free(" + c + ", 1, 0)", x -> x.free(c, 1, 0));
        }
    }

    private static void badAsked() {
        for (int p : outside(0, life.get().count(1) - 1)) {
            bad("kind(" + p + ")", x -> x.kind(p));
            bad("as(" + p + ", 1)", x -> x.as(p, 1));
            bad("ask(" + p + ", 0)", x -> x.ask(p, 0));
        }
        for (int kind : outside(0, 5)) {
            bad("as(0, " + kind + ")", x -> x.as(0, kind));
        }
        for (int what : outside(0, 1)) {
            bad("ask(0, " + what + ")", x -> x.ask(0, what));
        }
        for (int what : outside(0, 8)) {
            bad("count(" + what + ")", x -> x.count(what));
        }
    }

    // ---- STATE, FULL

    private static void states() {
        for (int p = 0; p < life.get().count(1); p++) {
            int promise = p;
            boolean isSettled = life.get().promise(p, 5) != 0;
            int inPan = life.get().promise(p, 6);
            refused("lay as it is " + p, x -> x.lay(promise, inPan), STATE);
            if (isSettled) {
                refused("lay one settled " + p, x -> x.lay(promise, 1), STATE);
                for (int kept = 0; kept <= 1; kept++) {
                    int is = kept;
                    refused("settle one settled " + p, x -> x.settle(promise, is), STATE);
                }
                for (int kind = 0; kind <= 5; kind++) {
                    int of = kind;
                    refused("worded one settled " + p, x -> x.worded(promise, of), STATE);
                }
            }
        }
    }

    private static void fullTape() {
        for (int letter = 0; letter <= 255; letter += 51) {
            int each = letter;
            refused("feed(" + each + ") when full", x -> x.feed(each), FULL);
        }
        refused("restore(0), of which none was kept", x -> x.restore(0), STATE);
    }

    private static void withoutScales() {
        refused("wax without scales", x -> x.wax(5), STATE);
        refused("wax(10) without scales", x -> x.wax(10), STATE);
        refused("undo without scales", x -> x.undo(), STATE);
        refused("reads without scales", x -> x.reads(0), STATE);
        refused("reads(-1) without scales", x -> x.reads(-1), STATE);
        refused("clash without scales", x -> x.clash(0), STATE);
        refused("bags without scales", x -> x.bags(0, 0), STATE);
        refused("heaviest without scales", x -> x.heaviest(0, 0), STATE);
        refused("found without scales", x -> x.found(0, 0, 1, 0), STATE);
        refused("found(8, -1, 9, 2) without scales", x -> x.found(8, -1, 9, 2), STATE);
        for (int each = 0; each <= 1; each++) {
            int k = each;
            refused("image(" + k + ") without scales", x -> x.image(k), STATE);
            refused("restore(" + k + ") without one", x -> x.restore(k), STATE);
        }
        bad("lay without scales", x -> x.lay(0, 1));
        bad("settle without scales", x -> x.settle(0, 1));
        bad("promise without scales", x -> x.promise(0, 0));
        bad("keeps without scales", x -> x.keeps(0));
        bad("worded without scales", x -> x.worded(0, 1));
        bad("price without scales", x -> x.price(0, 1));
        bad("prices without scales", x -> x.prices(0, 1));
        bad("settles without scales", x -> x.settles(0, 1, 0));
        bad("bestHeavy without scales", x -> x.bestHeavy(0));
        bad("keepsFound without scales", x -> x.keepsFound(0, 0, 0));
        bad("kind without scales", x -> x.kind(0));
        bad("as without scales", x -> x.as(0, 0));
        bad("ask without scales", x -> x.ask(0, 0));
    }

    // ---- FINDINGS, FAULTS

    private static void found(String what, Call call, int want) {
        unchanged(what, call, want, -1000010 - want);
    }

    private static void findings() {
        found("row(0, 2, -1)", x -> x.row(0, 2, -1), SIZE);
        found("row(4, 2, MIN)", x -> x.row(4, 2, MIN), SIZE);
        found("set(4, 0, 5)", x -> x.set(4, 0, 5), NULL);
        found("set(4, -1, 5)", x -> x.set(4, -1, 5), NULL);
        for (int i : outside(0, 5)) {
            found("set(0, " + i + ", 5)", x -> x.set(0, i, 5), PLACE);
        }
        found("set(2, 0, 5)", x -> x.set(2, 0, 5), PLACE);
        found("copy(4, 0, 0, 0, 1)", x -> x.copy(4, 0, 0, 0, 1), NULL);
        found("copy(0, 0, 4, 0, 1)", x -> x.copy(0, 0, 4, 0, 1), NULL);
        found("copy(0, 0, 1, 0, 1)", x -> x.copy(0, 0, 1, 0, 1), STORE);
        found("copy(2, 0, 0, 0, 0)", x -> x.copy(2, 0, 0, 0, 0), STORE);
        found("copy(0, 0, 0, 1, 6)", x -> x.copy(0, 0, 0, 1, 6), PLACE);
        found("copy(0, 4, 7, 0, 3)", x -> x.copy(0, 4, 7, 0, 3), PLACE);
        found("copy(0, 0, 7, 0, 4)", x -> x.copy(0, 0, 7, 0, 4), PLACE);
        found("copy(0, -1, 7, 0, 1)", x -> x.copy(0, -1, 7, 0, 1), PLACE);
        found("copy(0, 0, 7, -1, 1)", x -> x.copy(0, 0, 7, -1, 1), PLACE);
        found("copy(0, 1, 7, 1, -1)", x -> x.copy(0, 1, 7, 1, -1), PLACE);
        found("copy(0, 1, 7, 1, MAX)", x -> x.copy(0, 1, 7, 1, MAX), PLACE);
        found("copy(0, MAX, 7, MAX, MAX)", x -> x.copy(0, MAX, 7, MAX, MAX), PLACE);
        found("drop(4)", x -> x.drop(4), NULL);
        found("found(4, 0, 1, 0)", x -> x.found(4, 0, 1, 0), NULL);
        found("keepsFound(0, 4, 0)", x -> x.keepsFound(0, 4, 0), NULL);
        for (int i : outside(0, 4)) {
            found("found(0, " + i + ", 1, 0)", x -> x.found(0, i, 1, 0), PLACE);
        }
        found("found(0, 0, 4, 0)", x -> x.found(0, 0, 4, 0), PLACE);
        for (int i : outside(0, 6)) {
            found("keepsFound(1, 0, " + i + ")", x -> x.keepsFound(1, 0, i), PLACE);
        }
        found("as(0, 4)", x -> x.as(0, 4), KIND);
        found("as(0, 5)", x -> x.as(0, 5), KIND);
    }

    /** The tape is empty and the latest FAULT is 1 ahead of these, too, so that nothing else is left to differ. */
    private static void faults() {
        int status = life.get().status();
        unchanged("scales() of an empty tape", x -> x.scales(), -1000100, status);
        for (String text : new String[] {"s", "s4", "s4,", "s4,1", "s4,1;g5;p0,0,0,0"}) {
            unchanged("scales() of " + text, x -> Check.tell(x, text), -1000100 - text.length(), status);
        }
        unchanged("scales() of s4,1;x", x -> Check.tell(x, "s4,1;x"), -1000105, status);
        unchanged("scales() of s4,1;g5;p0,0,0,0;g5;", x -> Check.tell(x, "s4,1;g5;p0,0,0,0;g5;"), -1000117, status);
        unchanged("scales() of 777", x -> Check.tell(x, "777"), -1000100, status);
    }

    // ---- what changes nothing

    private static void same(String what, Call call) {
        PromiseScales twin = life.get();
        int answer = call.on(twin);
        check.holds(what + " answers", answer > -100000 || answer == -1000000);
        check.due(what + " again", call.on(twin), answer);
        unchanged(what, call, answer, twin.status());
    }

    private static void foretold() {
        check.terms(3, "FORETOLD (nothing changes).");
        int free = life.get().promise(0, 5) == 0 ? 0 : 2;
        for (int what = 0; what <= 1; what++) {
            int side = what;
            same("clash " + what, x -> x.clash(side));
            same("bags " + what, x -> x.bags(30, side));
            same("heaviest " + what, x -> x.heaviest(8, side));
            same("settles " + what, x -> x.settles(0, 11, side));
            same("found " + what, x -> x.found(0, 0, 1, side));
            same("free " + what, x -> x.free(3, 5, side));
        }
        for (int kind = 0; kind <= 5; kind++) {
            int of = kind;
            same("worded " + kind, x -> x.worded(free, of));
        }
        for (int giver = 0; giver < 2; giver++) {
            int g = giver;
            same("settles of " + g, x -> x.settles(g, 0, 0));
            same("bestHeavy of " + g, x -> x.bestHeavy(g));
            same("prices of " + g, x -> x.prices(g, 999));
            same("keepsFound of " + g, x -> x.keepsFound(g, 0, 0));
        }
        same("price", x -> x.price(0, 999));
    }

    private static void told() {
        for (int what = 0; what <= 8; what++) {
            int each = what;
            same("count " + what, x -> x.count(each));
            same("trace " + what, x -> x.trace(each));
            if (what <= 6) {
                same("promise " + what, x -> x.promise(2, each));
            }
        }
        same("keeps", x -> x.keeps(1));
        same("kind", x -> x.kind(4));
        same("reads", x -> x.reads(31));
        same("status", x -> x.status());
        same("fault", x -> x.fault());
        same("as", x -> x.as(0, 1));
    }
}
