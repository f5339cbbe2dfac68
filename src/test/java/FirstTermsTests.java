/** "Terms", its beginning and part 1: refusals, rows, texts and their faults, with the edges of each. */
public final class FirstTermsTests {
    private static final int MIN = Integer.MIN_VALUE, MAX = Integer.MAX_VALUE;
    private static final int NONE = -1000000, BAD = -1000001, STATE = -1000002, FULL = -1000003, FAULT = -1000100;
    private static final int NULL = -1000011, PLACE = -1000012, KIND = -1000013, SIZE = -1000014, STORE = -1000015;

    private static final Check check = new Check("FirstTermsTests");

    public static void main(String[] args) {
        numbersFrom0();
        divided();
        lowestTerms();
        setsAreBits();
        firstOfRefusals();
        refusalsAheadOfFindings();
        firstOfFindings();
        rows();
        rowsOf40();
        tape();
        tokensOfOneByte();
        letters();
        figures();
        blanks();
        wholeTexts();
        laws();
        givers();
        promises();
        sorts();
        inPlaceOfThoseBefore();
        firstFault();
        misplaced();
        atTheEnd();
        misnumbered();
        noRoom();
        check.end();
    }

    /** What a new object answers to a text: how many promises, or a fault; then the fault's number. */
    private static void reads(String text, int want, int number) {
        PromiseScales x = new PromiseScales();
        check.due("\"" + text + "\"", Check.tell(x, text), want);
        check.due("\"" + text + "\" fault()", x.fault(), number);
        check.due("\"" + text + "\" tape", x.count(8), 0);
    }

    private static void isRead(String text, int promises) {
        reads(text, promises, 0);
    }

    private static void hasFault(String text, int place, int number) {
        reads(text, FAULT - place, number);
    }

    private static void numbersFrom0() {
        check.terms(0, "Numbers go from 0 on.");
        PromiseScales x = Check.told("s0,1;g5;p0,0,0,20;");
        check.due("row 0", x.row(0, 0, 1), 1);
        check.due("item 0", x.set(0, 0, 7), 7);
        check.due("giver 0", x.keeps(0), 5);
        check.due("promise 0", x.promise(0, 4), 10);
        check.due("image 0", x.image(0), 1);
        x.ask(0, 0);
        check.due("number 0 of the trace", x.trace(0), 11);
        check.due("row -1", x.row(-1, 0, 1), BAD);
        check.due("item -1", x.set(0, -1, 7), PLACE);
        check.due("giver -1", x.keeps(-1), BAD);
        check.due("promise -1", x.promise(-1, 4), BAD);
        check.due("image -1", x.image(-1), BAD);
        check.due("number -1 of the trace", x.trace(-1), NONE);
    }

    private static void divided() {
        check.terms(0, "All that is divided is cut towards 0 but where told, and but fractions,");
        int[][] weights = {{0, 10, 0}, {1, 9, 0}, {1, 10, 1}, {19, 1, 1}, {20, 1, 2}, {3, 3, 0}, {19, 9, 17}, {20, 10, 20}};
        for (int[] w : weights) {
            PromiseScales x = Check.told("s0,1;g" + w[1] + ";p0,0,0," + w[0] + ";");
            check.due("weight of " + w[0] + " by " + w[1], x.promise(0, 4), w[2]);
        }
        PromiseScales x = Check.told("s0,1;g10;p0,0,0,19;p0,0,0,1;");
        check.due("19 times 1 by 20", x.price(0, 1), 0);
        check.due("19 times 2 by 20", x.price(0, 2), 1);
        check.due("1 times 19 by 20", x.price(1, 19), 0);
        check.due("1 times 20 by 20", x.price(1, 20), 1);
    }

    private static void lowestTerms() {
        check.terms(0, "fractions, told as two numbers in lowest terms (0 is 0 by 1).");
        PromiseScales x = new PromiseScales();
        long all = 1;
        for (int n = 0; n <= 8; n++) {
            for (int c = 0; c <= 10; c++) {
                long sticks = 1;
                for (int time = 0; time < n; time++) {
                    sticks *= c;
                }
                int above = x.free(c, n, 0);
                int below = x.free(c, n, 1);
                check.due("free " + c + " " + n + " is as much", above * all, (all - sticks) * below);
                check.due("free " + c + " " + n + " in lowest terms", divisor(above, below), 1);
            }
            all *= 10;
        }
        check.due("0", x.free(10, 8, 0), 0);
        check.due("by 1", x.free(10, 8, 1), 1);
        check.due("1", x.free(0, 8, 0), 1);
        check.due("by 1, too", x.free(0, 8, 1), 1);
    }

    private static int divisor(int a, int b) {
        return b == 0 ? a : divisor(b, a % b);
    }

    private static void setsAreBits() {
        check.terms(0, "Sets are bits.");
        PromiseScales x = Check.told("s0,1;g10;p0,0,0,1;p0,0,1,2;p0,0,2,3;p0,0,3,4;p0,0,4,5;p0,0,5,6;p0,0,6,7;p0,0,7,8;");
        for (int p = 0; p < 8; p++) {
            check.due("the set of " + p, x.reads(1 << p), p + 1);
            x.lay(p, 1);
            check.due("the pan of 0 to " + p, x.count(3), (2 << p) - 1);
        }
        check.due("the empty set", x.reads(0), 0);
        check.due("the set of all", x.reads(255), 36);
        check.due("0 and 7", x.reads(129), 9);
    }

    private static void firstOfRefusals() {
        check.terms(0, "Refusals are answers, the first of these that fits, but as told: "
            + "BAD (a number is not as told; there is no such thing), STATE (as told), FULL (as told),");
        PromiseScales x = new PromiseScales();
        check.due("BAD ahead of STATE, image", x.image(2), BAD);
        check.due("BAD ahead of STATE, restore", x.restore(2), BAD);
        check.due("STATE, image", x.image(1), STATE);
        check.due("STATE, restore", x.restore(1), STATE);
        check.due("STATE ahead of BAD, as told: wax", x.wax(10), STATE);
        check.due("STATE ahead of BAD, as told: reads", x.reads(-1), STATE);
        check.due("STATE ahead of BAD, as told: clash", x.clash(2), STATE);
        check.due("STATE ahead of BAD, as told: bags", x.bags(201, 2), STATE);
        check.due("STATE ahead of BAD, as told: heaviest", x.heaviest(9, 2), STATE);
        check.due("STATE ahead of BAD, as told: found", x.found(8, -1, 9, 2), STATE);
        check.due("there is no such thing: promise", x.promise(0, 0), BAD);
        check.due("there is no such thing: giver", x.keeps(0), BAD);
        Check.tell(x, "s0,1;g5;p0,0,0,20;");
        x.settle(0, 1);
        check.due("BAD ahead of STATE, lay", x.lay(0, 2), BAD);
        check.due("BAD ahead of STATE, settle", x.settle(0, -1), BAD);
        check.due("BAD ahead of STATE, worded", x.worded(0, 6), BAD);
        check.due("STATE, lay", x.lay(0, 1), STATE);
        check.due("STATE, settle", x.settle(0, 1), STATE);
        check.due("STATE, worded", x.worded(0, 5), STATE);
        for (int n = 0; n < 120; n++) {
            x.feed('s');
        }
        check.due("BAD ahead of FULL", x.feed(256), BAD);
        check.due("FULL", x.feed(255), FULL);
    }

    private static void refusalsAheadOfFindings() {
        PromiseScales x = Check.told("s0,1;g5;p0,0,0,20;");
        check.due("BAD ahead of SIZE", x.row(8, 0, -1), BAD);
        check.due("BAD ahead of SIZE, lane", x.row(0, 3, -1), BAD);
        check.due("BAD ahead of NULL, set", x.set(8, 0, 0), BAD);
        check.due("BAD ahead of NULL, copy to", x.copy(0, 0, 8, 0, 0), BAD);
        check.due("BAD ahead of NULL, copy from", x.copy(8, 0, 0, 0, 0), BAD);
        check.due("BAD ahead of NULL, drop", x.drop(8), BAD);
        check.due("BAD ahead of NULL, found", x.found(0, 0, 0, 0), BAD);
        check.due("BAD ahead of NULL, keepsFound", x.keepsFound(1, 0, 0), BAD);
        check.due("BAD ahead of KIND", x.as(1, 5), BAD);
        check.due("none of them told anew", x.status(), 0);
    }

    private static void firstOfFindings() {
        check.terms(0, "then FINDINGS, of several the first in time: -1000010 less 1 NULL (a ROW that is missing), "
            + "2 PLACE (no such place of a ROW), 3 KIND (a PROMISE that is not that), 4 SIZE (fewer than none), "
            + "5 STORE (ROWS of two LANES).");
        PromiseScales x = Check.told("s0,1;g5;p0,0,0,20;");
        x.row(0, 0, 2);
        x.row(1, 1, 2);
        found(x, "NULL, drop", x.drop(2), NULL, 1);
        found(x, "PLACE, set", x.set(0, 2, 0), PLACE, 2);
        found(x, "KIND, as", x.as(0, 2), KIND, 3);
        found(x, "SIZE, row", x.row(3, 0, -1), SIZE, 4);
        found(x, "STORE, copy", x.copy(0, 0, 1, 0, 1), STORE, 5);
        found(x, "NULL ahead of PLACE, set", x.set(2, -1, 0), NULL, 1);
        found(x, "STORE ahead of PLACE, copy", x.copy(0, -1, 1, 3, -1), STORE, 5);
        found(x, "NULL ahead of PLACE, copy", x.copy(2, -1, 0, 3, -1), NULL, 1);
        found(x, "PLACE, found", x.found(0, 1, 1, 0), PLACE, 2);
        found(x, "NULL ahead of PLACE, copy to", x.copy(0, -1, 2, 3, -1), NULL, 1);
        found(x, "PLACE, keepsFound", x.keepsFound(0, 0, 2), PLACE, 2);
        found(x, "NULL ahead of PLACE, found", x.found(2, -1, 8, 0), NULL, 1);
        found(x, "PLACE, copy", x.copy(0, 0, 0, 1, 2), PLACE, 2);
        found(x, "NULL ahead of PLACE, keepsFound", x.keepsFound(0, 2, -1), NULL, 1);
        found(x, "no finding", x.copy(0, 0, 0, 0, 2), 2, 0);
    }

    private static void found(PromiseScales x, String what, int got, int want, int status) {
        check.due(what, got, want);
        check.due(what + " status()", x.status(), status);
    }

    private static void rows() {
        check.terms(1, "ROWS 0 .. 7 are missing (at first), or have a LANE (0 bytes, 1 shorts, 2 ints) "
            + "and 0 to 40 ITEMS, 0 at first.");
        PromiseScales x = new PromiseScales();
        for (int r = 0; r < 8; r++) {
            check.due("missing at first " + r, x.set(r, 0, 1), NULL);
        }
        int[] most = {255, 65535, -1};
        for (int r = 0; r < 8; r++) {
            check.due("none in " + r, x.row(r, r % 3, 0), 0);
            check.due("rows", x.count(0), r + 1);
            check.due("no item in " + r, x.set(r, 0, 1), PLACE);
            check.due("one in " + r, x.row(r, r % 3, 1), 1);
            check.due("all bits of its lane " + r, x.set(r, 0, most[r % 3]), -1);
            check.due("a bit more " + r, x.set(r, 0, most[r % 3] + 1), 0);
            check.due("no second in " + r, x.set(r, 1, 1), PLACE);
        }
        check.due("lane 0 bytes", x.set(0, 0, MAX), -1);
        check.due("lane 0 bytes, highest", x.set(0, 0, 0x12345680), -128);
        check.due("lane 1 shorts", x.set(1, 0, MIN + 32767), 32767);
        check.due("lane 1 shorts, highest", x.set(1, 0, 0x12348000), -32768);
        check.due("lane 2 ints", x.set(2, 0, MIN + 32767), MIN + 32767);
        for (int r = -1; r <= 8; r += 9) {
            check.due("no row " + r, x.row(r, 0, 0), BAD);
        }
        for (int lane = -1; lane <= 3; lane += 4) {
            check.due("no lane " + lane, x.row(0, lane, 0), BAD);
        }
        for (int r = 7; r >= 0; r--) {
            check.due("dropped " + r, x.drop(r), 1);
            check.due("missing anew " + r, x.drop(r), NULL);
            check.due("rows left", x.count(0), r);
        }
    }

    private static void rowsOf40() {
        PromiseScales x = Check.told("s0,1;");
        for (int lane = 0; lane <= 2; lane++) {
            check.due("40", x.row(lane, lane, 40), 40);
            check.due("41", x.row(lane, lane, 41), BAD);
            check.due("fewer than none", x.row(lane, lane, -1), SIZE);
            for (int i = 0; i < 40; i++) {
                check.due("item " + i, x.set(lane, i, 9), 9);
            }
            check.due("no item 40", x.set(lane, 40, 9), PLACE);
            check.due("anew", x.row(lane, lane, 40), 40);
            // Eight sets of none, and each reads 0: sixteen items that are 0.
            for (int i = 0; i <= 24; i += 12) {
                check.due("all are 0 at first, from " + i, x.found(lane, i, 8, 0), 1);
            }
            check.due("dropped", x.drop(lane), 40);
        }
    }

    private static void tape() {
        check.terms(1, "TEXTS: THE TAPE has at most 120 bytes, that come one by one;");
        PromiseScales x = new PromiseScales();
        check.due("none at first", x.count(8), 0);
        String text = "s0,1;g10;g10;g10;g10;" + "p00,00,00,00;".repeat(6) + "p00,0,0,20;" + "p3,05,9,2;";
        check.due("a text of 120", text.length(), 120);
        for (int n = 1; n <= 120; n++) {
            check.due("byte " + n, x.feed(text.charAt(n - 1)), n);
            check.due("bytes", x.count(8), n);
        }
        check.due("one more", x.feed('x'), FULL);
        check.due("all are read", x.scales(), 8);
        check.due("the last of them", x.promise(7, 3), 2);
        check.due("empty", x.count(8), 0);
        check.due("room anew", x.feed('s'), 1);
    }

    /** Each of the 256 bytes, where a letter, a sign, a number is due. */
    private static void tokensOfOneByte() {
        check.terms(1, "TOKENS: letters a to z (each by itself), NUMBERS (figures, 2 at most), SIGNS , and ; "
            + "nothing else, no blanks.");
        for (char b = 0; b < 256; b++) {
            boolean isFigure = b >= '0' && b <= '9';
            reads(b + "0,1;", b == 's' ? 0 : FAULT, b == 's' ? 0 : 1);
            reads("s" + b + ",1;", isFigure ? 0 : FAULT - 1, isFigure ? 0 : 1);
            // With a figure there it is a run of three.
            reads("s1" + b + "1;", b == ',' ? 0 : isFigure ? FAULT - 1 : FAULT - 2, b == ',' ? 0 : 1);
            reads("s1,1" + b, b == ';' ? 0 : isFigure ? FAULT - 3 : FAULT - 4, b == ';' ? 0 : isFigure ? 2 : 1);
            boolean isSort = "pitom".indexOf(b) >= 0;
            reads("s1,1;" + b + "5;", b == 'g' ? 0 : isSort ? FAULT - 6 : FAULT - 5, b == 'g' ? 0 : isSort ? 2 : 1);
            reads("s1,1;g5;p0,0,0,0;" + b, FAULT - (isSort ? 18 : 17), 1);
        }
    }

    private static void letters() {
        hasFault("ss0,1;", 1, 1);
        hasFault("s0,1;gg5;", 6, 1);
        hasFault("s0,1;g5;pp0,0,0,0;", 9, 1);
        hasFault("s0,1;g5;pi0,0,0,0;", 9, 1);
    }

    private static void figures() {
        isRead("s1,1;", 0);
        isRead("s01,01;", 0);
        hasFault("s001,01;", 1, 1);
        hasFault("s01,001;", 4, 1);
        hasFault("s01,0000000001;", 4, 1);
        isRead("s0,1;g05;p00,00,00,00;", 1);
        hasFault("s0,1;g05;p00,00,00,000;", 19, 1);
    }

    private static void blanks() {
        hasFault(" s0,1;", 0, 1);
        hasFault("s 0,1;", 1, 1);
        hasFault("s0 ,1;", 2, 1);
        hasFault("s0, 1;", 3, 1);
        hasFault("s0,1 ;", 4, 1);
        hasFault("s0,1; ", 5, 1);
        hasFault("s0,1;\n", 5, 1);
        hasFault("s0,1;\tg5;", 5, 1);
    }

    private static void wholeTexts() {
        check.terms(1, "scales: law { giver } { promise }.");
        isRead("s0,1;", 0);
        isRead("s0,1;g5;", 0);
        isRead("s0,1;g5;g5;", 0);
        isRead("s0,1;g5;p0,0,0,0;", 1);
        isRead("s0,1;g5;g5;p0,0,0,0;p1,0,0,0;", 2);
        hasFault("", 0, 1);
        hasFault("g5;", 0, 1);
        hasFault("p0,0,0,0;", 0, 1);
        hasFault("s0,1;s0,1;", 5, 1);
        hasFault("s0,1;g5;s0,1;", 8, 1);
        hasFault("s0,1;g5;p0,0,0,0;g5;", 17, 1);
        hasFault("s0,1;g5;p0,0,0,0;s0,1;", 17, 1);
    }

    /** A number within what is told stands, others are FAULT 2, and with three figures none. */
    private static void number(String before, String behind, int least, int most, int promises) {
        for (int n = 0; n <= 99; n++) {
            String[] texts = {String.valueOf(n), n < 10 ? "0" + n : String.valueOf(n)};
            for (String text : texts) {
                if (n >= least && n <= most) {
                    isRead(before + text + behind, promises);
                } else {
                    hasFault(before + text + behind, before.length(), 2);
                }
            }
        }
        for (String text : new String[] {"", "000", "001", "100", "999", "0000", "-1", "+1", "a", ",", ";"}) {
            hasFault(before + text + behind, before.length(), 1);
        }
    }

    private static void laws() {
        check.terms(1, "law: s WAX , STICK ; (0 to 9; 1 to 5).");
        number("s", ",1;", 0, 9, 0);
        number("s0,", ";", 1, 5, 0);
        for (int wax = 0; wax <= 9; wax++) {
            for (int stick = 1; stick <= 5; stick++) {
                PromiseScales x = Check.told("s" + wax + "," + stick + ";");
                check.due("wax", x.count(5), wax);
                check.due("stick", x.count(6), stick);
            }
        }
        hasFault("s0;1;", 2, 1);
        hasFault("s0,1,", 4, 1);
        hasFault("s,0,1;", 1, 1);
    }

    private static void givers() {
        check.terms(1, "giver: g KEEPS ; (0 to 10; GIVERS 0 .. 3, 4 at most).");
        number("s0,1;g", ";", 0, 10, 0);
        for (int keeps = 0; keeps <= 10; keeps++) {
            check.due("keeps", Check.told("s0,1;g" + keeps + ";").keeps(0), keeps);
        }
        String text = "s0,1;";
        for (int many = 0; many <= 4; many++) {
            PromiseScales x = Check.told(text);
            check.due("givers", x.count(2), many);
            check.due("the last of " + many, x.keeps(many - 1), many == 0 ? BAD : many);
            check.due("the one behind", x.keeps(many), BAD);
            text += "g" + (many + 1) + ";";
        }
        hasFault(text, 17, 3);
        hasFault("s0,1;g5,", 7, 1);
    }

    private static void promises() {
        check.terms(1, "promise: SORT GIVER , DEED , DAY , LIKELY ; (SORT: p a plain one, i an if, t one said twice, "
            + "o an oath, m one about a promise; a GIVER told; 0 to 5; 0 to 9; 0 to 20; PROMISES 0 .. 7, 8 at most).");
        String givers = "s0,1;";
        for (int many = 0; many <= 4; many++) {
            number(givers + "p", ",0,0,0;", 0, many - 1, 1);
            givers += "g5;";
        }
        number("s0,1;g5;p0,", ",0,0;", 0, 5, 1);
        number("s0,1;g5;p0,0,", ",0;", 0, 9, 1);
        number("s0,1;g5;p0,0,0,", ";", 0, 20, 1);
        for (int n = 0; n <= 20; n++) {
            String text = "s0,1;g5;g5;g5;g5;p" + n % 4 + "," + n % 6 + "," + n % 10 + "," + n + ";";
            PromiseScales x = Check.told(text);
            int[] want = {n % 4, n % 6, n % 10, n};
            for (int what = 0; what < 4; what++) {
                check.due(text + " " + what, x.promise(0, what), want[what]);
            }
        }
        String text = "s0,1;g5;";
        for (int many = 0; many <= 8; many++) {
            check.due("promises", Check.told(text).count(1), many);
            check.due("the one behind", Check.told(text).kind(many), BAD);
            text += "p0,0,0," + many + ";";
        }
        hasFault(text, 80, 3);
        for (int sign = 10; sign <= 14; sign += 2) {
            String other = "s0,1;g5;p0,0,0,0;";
            hasFault(other.substring(0, sign) + ";" + other.substring(sign + 1), sign, 1);
        }
        hasFault("s0,1;g5;p0,0,0,0,", 16, 1);
    }

    private static void sorts() {
        for (char letter = 'a'; letter <= 'z'; letter++) {
            int kind = "pitom".indexOf(letter) + 1;
            String text = "s0,1;g5;" + letter + "0,0,0,0;";
            if (kind > 0) {
                check.due(text, Check.told(text).kind(0), kind);
            } else {
                // A giver has one number alone.
                hasFault(text, letter == 'g' ? 10 : 8, 1);
            }
        }
    }

    private static void inPlaceOfThoseBefore() {
        check.terms(1, "SCALES that are read stand in place of those before (none at first): the PAN is empty, "
            + "nothing is SETTLED; no ACT can be undone; IMAGES and ROWS stay.");
        PromiseScales x = new PromiseScales();
        check.due("none at first", x.reads(0), STATE);
        String text = "s2,3;g7;p0,1,3,18;i0,2,3,20;";
        Check.tell(x, text);
        x.row(0, 2, 3);
        x.set(0, 1, 9);
        x.lay(0, 1);
        x.image(0);
        x.settle(0, 0);
        x.lay(1, 1);
        x.wax(4);
        check.due("the same anew", Check.tell(x, text), 2);
        check.due("an empty pan", x.count(3), 0);
        check.due("not settled", x.promise(0, 5), 0);
        check.due("keeps as told", x.keeps(0), 7);
        check.due("wax as told", x.count(5), 2);
        check.due("no act", x.count(7), 0);
        check.due("none to undo", x.undo(), STATE);
        check.due("a law alone", Check.tell(x, "s9,5;"), 0);
        check.due("no promise", x.kind(0), BAD);
        check.due("no giver", x.keeps(0), BAD);
        check.due("the row stays", x.found(0, 0, 1, 0), 0);
        x.row(1, 2, 2);
        x.copy(0, 1, 1, 1, 1);
        check.due("its item stays: wax of 9 reads 9 by 1, 3", x.found(1, 0, 1, 1), 1 + 4);
        check.due("the image stays", x.restore(0), 1);
        check.due("the pan of the image", x.count(3), 1);
    }

    private static void firstFault() {
        check.terms(1, "FAULTS, the first TOKEN that has one (its first byte), of one TOKEN the least:");
        hasFault("s10,0;", 1, 2);
        hasFault("s0,6;x", 3, 2);
        hasFault("s0,1;g11;g12;", 6, 2);
        hasFault("s0,1;g99", 6, 2);
        hasFault("s0,1;g5;p1,9,0,0;", 9, 2);
        hasFault("s0,1;g5;p0,0,0,99", 15, 2);
        hasFault("s0,1;g1;g2;g3;g4;g11;", 17, 3);
        // Of one token: it cannot stand there (1) and is not as told (2), or there is no room for it (3).
        hasFault("s0,1;99", 5, 1);
        hasFault("s123,1;", 1, 1);
        hasFault("s0,1;g1;g2;g3;g4;p0,0,0,0;g5;", 26, 1);
        hasFault("s0,1;g5;" + "p0,0,0,0;".repeat(8) + "g5;", 80, 1);
    }

    private static void misplaced() {
        check.terms(1, "1 it cannot stand there, or is none (a run of three figures or more, at its first; "
            + "the end: how many bytes there are);");
        hasFault("p", 0, 1);
        hasFault("s,", 1, 1);
        hasFault("s0s", 2, 1);
        hasFault("s0,1;,", 5, 1);
        hasFault("s0,1;7", 5, 1);
        hasFault("s0,1;777", 5, 1);
        hasFault("s0,1;z", 5, 1);
        hasFault("s0,1;Z", 5, 1);
        hasFault("s0,1;g5;p0,0,0,0;777", 17, 1);
        hasFault("s777", 1, 1);
        hasFault("s7777,", 1, 1);
        hasFault("777", 0, 1);
        hasFault("s0,1;g5;p0,777,0,0;", 11, 1);
        isRead("s0,1;g5;p0,5,0,0;", 1);
    }

    /** Each beginning of a text: read where a part of it ends, else a fault at its end. */
    private static void atTheEnd() {
        String text = "s09,5;g10;g0;o1,05,9,20;m0,0,0,0;";
        for (int length = 0; length <= text.length(); length++) {
            String beginning = text.substring(0, length);
            if (beginning.endsWith(";")) {
                isRead(beginning, length == 24 ? 1 : length == 33 ? 2 : 0);
            } else {
                hasFault(beginning, length, 1);
            }
        }
        String full = "s0,1;g10;g10;g10;g10;" + "p00,00,00,00;".repeat(6) + "p00,0,0,20;" + "p03,05,9,2";
        check.due("a text of 120", full.length(), 120);
        hasFault(full, 120, 1);
    }

    private static void misnumbered() {
        check.terms(1, "2 a NUMBER that is not as told;");
        hasFault("s10,1;", 1, 2);
        hasFault("s0,0;", 3, 2);
        hasFault("s0,6;", 3, 2);
        hasFault("s0,1;g11;", 6, 2);
        hasFault("s0,1;p0,0,0,0;", 6, 2);
        hasFault("s0,1;g5;p1,0,0,0;", 9, 2);
        hasFault("s0,1;g5;p0,6,0,0;", 11, 2);
        hasFault("s0,1;g5;p0,0,10,0;", 13, 2);
        hasFault("s0,1;g5;p0,0,0,21;", 15, 2);
        hasFault("s10", 1, 2);
    }

    private static void noRoom() {
        check.terms(1, "3 a giver, a promise more than there is room for (its letter).");
        String four = "s0,1;g1;g2;g3;g4;";
        isRead(four, 0);
        hasFault(four + "g", 17, 3);
        hasFault(four + "g5;", 17, 3);
        hasFault(four + "g777", 17, 3);
        for (char sort : "pitom".toCharArray()) {
            String eight = four + (sort + "3,0,0,0;").repeat(8);
            isRead(eight, 8);
            for (char ninth : "pitom".toCharArray()) {
                hasFault(eight + ninth, 89, 3);
                hasFault(eight + ninth + "0,0,0,0;", 89, 3);
            }
        }
    }
}
