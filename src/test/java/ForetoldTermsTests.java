/** "Terms", parts 3 and 4: what is foretold, kinds and asks, with the edges of each. */
public final class ForetoldTermsTests {
    private static final int NONE = -1000000, BAD = -1000001, STATE = -1000002, KIND = -1000013;

    /** Weights: 12, 8, 3, 6, 14, 4, 8; clashes: 0 and 1, 1 and 5, 2 and 3. */
    private static final String SEVEN =
        "s2,3;g7;g4;p0,1,3,18;i0,2,3,20;t1,0,5,15;o1,1,5,9;m0,3,8,0;p0,1,3,6;p1,4,0,20;";

    private static final Check check = new Check("ForetoldTermsTests");

    public static void main(String[] args) {
        clashing();
        settledOnesDoNotClash();
        pairs();
        bags();
        fewestInBag();
        heaviest();
        wordedWeights();
        wordedBest();
        priceOfPromise();
        priceOfGiver();
        settlesByWeight();
        settlesByDays();
        settlesAtTheEnds();
        bestHeavy();
        waxesFound();
        sticksFound();
        keepsFound();
        free();
        kinds();
        sizes();
        marks();
        asksOfSettledOnes();
        nearestBodies();
        check.end();
    }

    private static void clashing() {
        check.terms(3, "Two PROMISES that are not SETTLED CLASH, if they are of one GIVER and one DAY, and of unlike DEEDS.");
        for (int giver = 0; giver < 4; giver += 3) {
            for (int day = 0; day <= 9; day++) {
                for (int deed = 0; deed <= 5; deed++) {
                    String text = "s0,1;g5;g5;g5;g5;p0,5,9,1;p" + giver + "," + deed + "," + day + ",1;";
                    check.due(text, Check.told(text).clash(0), giver == 0 && day == 9 && deed != 5 ? 1 : 0);
                }
            }
        }
        check.due("of all kinds", Check.told("s0,1;g5;p0,0,1,1;i0,1,1,1;t0,2,1,1;o0,3,1,1;m0,4,1,1;").clash(0), 10);
        check.due("laid ones, too", laidAndClashing(), 1);
    }

    private static int laidAndClashing() {
        PromiseScales x = Check.told("s0,1;g5;p0,0,1,1;p0,1,1,1;");
        x.lay(0, 1);
        x.lay(1, 1);
        return x.clash(0);
    }

    private static void settledOnesDoNotClash() {
        for (int settled = 0; settled <= 1; settled++) {
            for (int kept = 0; kept <= 1; kept++) {
                PromiseScales x = Check.told("s0,1;g5;p0,0,1,1;p0,1,1,1;");
                check.due("they do", x.clash(1), 1);
                x.settle(settled, kept);
                check.due("one is settled", x.clash(0), 0);
                check.due("no first", x.clash(1), NONE);
                x.undo();
                check.due("it is not settled any more", x.clash(0), 1);
            }
        }
    }

    private static void pairs() {
        check.terms(3, "CLASH: how many pairs; the first (8 times the lesser, and the other); NONE.");
        String law = "s0,1;g5;";
        PromiseScales x = Check.told(law + "p0,0,1,1;p0,1,1,1;p0,2,1,1;p0,3,1,1;p0,4,1,1;p0,5,1,1;p0,0,1,1;p0,1,1,1;");
        check.due("28 less 0 and 6, 1 and 7", x.clash(0), 26);
        check.due("0 and 1", x.clash(1), 1);
        for (int p = 0; p < 6; p++) {
            x.settle(p, 1);
        }
        check.due("6 and 7", x.clash(0), 1);
        check.due("the last that can be", x.clash(1), 8 * 6 + 7);
        x.settle(7, 0);
        check.due("none", x.clash(0), 0);
        check.due("no first", x.clash(1), NONE);
        check.due("0 and 7", Check.told(law + "p0,0,0,1;" + "p0,1,1,1;".repeat(6) + "p0,1,0,1;").clash(1), 7);
        check.due("1 and 2 ahead of 0 and 3 not", Check.told(law + "p0,0,0,1;p0,1,1,1;p0,2,1,1;p0,3,0,1;").clash(1), 3);
        check.due("of one", Check.told(law + "p0,0,1,1;").clash(0), 0);
        check.due("of one no first", Check.told(law + "p0,0,1,1;").clash(1), NONE);
        check.due("of none", Check.told(law).clash(0), 0);
        check.due("of none no first", Check.told(law).clash(1), NONE);
    }

    private static void bags() {
        check.terms(3, "BAGS by v: sets of PROMISES (the empty one, too) that are not SETTLED, no two of which CLASH, that READ v:");
        PromiseScales x = Check.told(SEVEN);
        check.due("0, 1, 5: five sets; 2, 3: three; 4: two; 6: two", all(x, 3), 5 * 3 * 2 * 2);
        x.settle(1, 1);
        check.due("0, 5: four sets", all(x, 3), 4 * 3 * 2 * 2);
        x.settle(3, 0);
        check.due("2: two sets", all(x, 3), 4 * 2 * 2 * 2);
        for (int p = 0; p < 7; p += 2) {
            x.settle(p, 1);
        }
        check.due("5 alone", all(x, 3), 2);
        x.settle(5, 0);
        check.due("the empty one alone", all(x, 3), 1);
        check.due("it reads 0", x.bags(0, 0), 1);
        for (int wax = 0; wax <= 9; wax++) {
            PromiseScales empty = Check.told("s" + wax + ",4;");
            check.due("the empty one, wax " + wax, empty.bags(wax / 4 * 4, 1), 0);
            check.due("and no other, wax " + wax, all(empty, 1), 1);
        }
        PromiseScales most = Check.told("s9,1;g10;" + "p0,0,0,20;".repeat(8));
        check.due("all of eight", all(most, 1), 256);
        check.due("the most that is read", most.bags(169, 1), 255);
        check.due("four of eight", most.bags(89, 0), 70);
        check.due("200", most.bags(200, 0), 0);
        check.due("201", most.bags(201, 0), BAD);
        check.due("-1", most.bags(-1, 0), BAD);
    }

    /** How many bags there are by all v from 0 to 200, looked at by steps of what the scales stick. */
    private static int all(PromiseScales x, int step) {
        int many = 0;
        for (int v = 0; v <= 200; v += step) {
            many += x.bags(v, 0);
        }
        return many;
    }

    private static void fewestInBag() {
        check.terms(3, "how many; the one with fewest, of several the least; NONE.");
        PromiseScales x = Check.told("s0,1;g10;p0,0,0,1;p0,0,0,2;p0,0,0,3;p0,0,0,6;p0,0,0,6;p0,0,0,0;");
        check.due("6: 3; 4; 0, 1, 2; each with 5 or not", x.bags(6, 0), 6);
        check.due("3 alone, ahead of 4 alone, and of 0, 1, 2", x.bags(6, 1), 8);
        check.due("0: none, 5", x.bags(0, 0), 2);
        check.due("the empty one", x.bags(0, 1), 0);
        check.due("18: all, with 5 or not", x.bags(18, 0), 2);
        check.due("all but 5", x.bags(18, 1), 31);
        check.due("19: how many", x.bags(19, 0), 0);
        check.due("19: none", x.bags(19, 1), NONE);
        check.due("9: 2 and 3, 2 and 4, 0, 1, 3 ..", x.bags(9, 1), 12);
    }

    private static void heaviest() {
        check.terms(3, "HEAVIEST of n at most: such a set of at most n PROMISES that READS most, of several the least: that; which.");
        PromiseScales x = Check.told("s3,1;g10;" + "p0,0,0,5;".repeat(8));
        for (int n = 0; n <= 8; n++) {
            check.due("n " + n, x.heaviest(n, 0), 3 + 5 * n);
            check.due("the least of " + n, x.heaviest(n, 1), (1 << n) - 1);
        }
        PromiseScales clashing = Check.told("s0,1;g10;p0,0,0,9;p0,1,0,11;p0,0,0,3;");
        check.due("0 and 2, no two that clash", clashing.heaviest(8, 0), 12);
        check.due("which", clashing.heaviest(8, 1), 5);
        check.due("1 alone", clashing.heaviest(1, 1), 2);
        clashing.settle(1, 1);
        check.due("not one that is settled", clashing.heaviest(1, 0), 9);
        PromiseScales sticking = Check.told("s1,5;g10;p0,0,0,3;p0,0,0,1;p0,0,0,3;");
        check.due("4 reads 0, as none does", sticking.heaviest(1, 1), 0);
        check.due("5 by 0 and 1", sticking.heaviest(2, 0), 5);
        check.due("the least of them", sticking.heaviest(2, 1), 3);
        check.due("no more by all", sticking.heaviest(3, 1), 3);
        PromiseScales light = Check.told("s9,2;g0;" + "p0,0,0,20;".repeat(8));
        check.due("all weigh 0", light.heaviest(8, 0), 8);
        check.due("the empty one is the least", light.heaviest(8, 1), 0);
        check.due("no promises", Check.told("s9,2;").heaviest(8, 1), 0);
    }

    private static void wordedWeights() {
        check.terms(3, "WORDED: if a PROMISE that is not SETTLED were of another KIND (1 to 5), all others as they are: its WEIGHT then;");
        for (char sort : "pitom".toCharArray()) {
            PromiseScales x = Check.told("s0,1;g7;" + sort + "0,0,0,13;" + sort + "0,0,0,19;");
            // Both by 7 of 10: 9 and 13.
            int[] first = {9, 9, 5, 18, 20};
            int before = first["pitom".indexOf(sort)];
            int[] second = {13, 13 * before / 20, 7, 20, 20 - before};
            for (int kind = 1; kind <= 5; kind++) {
                check.due(sort + " 0 were of " + kind, x.worded(0, kind), first[kind - 1]);
                check.due(sort + " 1 were of " + kind, x.worded(1, kind), second[kind - 1]);
            }
            int own = "pitom".indexOf(sort) + 1;
            check.due("by its own kind it weighs what it weighs", x.worded(1, own), x.promise(1, 4));
            check.due("its kind is left", x.kind(1), own);
            x.settle(0, 1);
            check.due("if by one that was kept", x.worded(1, 2), 15);
            check.due("about one that was kept", x.worded(1, 5), 0);
            check.due("one that is settled", x.worded(0, 1), STATE);
        }
    }

    private static void best(String promises, int promise, int want) {
        check.due("best of " + promise + " in " + promises, Check.told("s0,1;g10;" + promises).worded(promise, 0), want);
    }

    private static void wordedBest() {
        check.terms(3, "by which KIND it is greatest (its own one, too), of several the first.");
        best("p0,0,0,20;", 0, 1);
        best("m0,0,0,20;", 0, 1);
        best("p0,0,0,19;", 0, 4);
        best("p0,0,0,10;", 0, 4);
        best("p0,0,0,9;", 0, 5);
        best("p0,0,0,0;", 0, 5);
        best("p0,0,0,20;p0,0,0,0;", 1, 1);
        best("p0,0,0,20;p0,0,0,1;", 1, 4);
        best("p0,0,0,18;p0,0,0,1;", 1, 4);
        best("p0,0,0,17;p0,0,0,1;", 1, 5);
        best("m0,0,0,0;m0,0,0,0;", 1, 1);
        best("p0,0,0,0;o0,0,0,20;", 1, 1);
        best("p0,0,0,0;o0,0,0,10;", 1, 4);
        best("p0,0,0,0;o0,0,0,9;", 1, 5);
    }

    private static void priceOfPromise() {
        check.terms(3, "PRICE of a PROMISE by v (0 to 999): v times its WEIGHT by 20;");
        for (int weight = 0; weight <= 20; weight++) {
            PromiseScales x = Check.told("s0,1;g10;p0,0,0," + weight + ";");
            for (int v = 0; v <= 999; v += 111) {
                check.due("price " + weight + " by " + v, x.price(0, v), (v * weight - v * weight % 20) / 20);
            }
            check.due("just outside", x.price(0, 1000), BAD);
            check.due("just outside below", x.price(0, -1), BAD);
        }
        PromiseScales x = Check.told("s0,1;g0;p0,0,0,20;p0,0,0,20;");
        x.settle(0, 1);
        x.settle(1, 0);
        check.due("one kept", x.price(0, 999), 999);
        check.due("one broken", x.price(1, 999), 0);
    }

    private static void priceOfGiver() {
        check.terms(3, "of a GIVER: of all its PROMISES that are not SETTLED, added.");
        PromiseScales x = Check.told("s0,1;g10;g10;g10;p0,0,0,20;p1,0,0,20;p0,0,0,1;o0,0,0,19;m1,0,0,0;p0,0,0,19;");
        check.due("20, 1, 20, 19", x.prices(0, 20), 60);
        check.due("20, 0", x.prices(1, 20), 20);
        check.due("none", x.prices(2, 999), 0);
        check.due("each is cut: 19, 0, 19, 18", x.prices(0, 19), 56);
        check.due("the most", x.prices(0, 999), 999 + 49 + 999 + 949);
        check.due("by 0", x.prices(0, 0), 0);
        x.settle(0, 1);
        check.due("without one kept: 1, 20, 19", x.prices(0, 20), 40);
        x.settle(3, 0);
        check.due("nor one broken, keeps 9 then: 0, 17", x.prices(0, 20), 1 * 9 / 10 + 17);
        PromiseScales all = Check.told("s0,1;g10;" + "p0,0,0,20;".repeat(8));
        check.due("of eight", all.prices(0, 999), 8 * 999);
    }

    private static void settlesByWeight() {
        check.terms(3, "a PROMISE of that DAY that is not SETTLED is KEPT, if its WEIGHT then is h or more, else BROKEN:");
        for (int weight = 0; weight <= 20; weight++) {
            PromiseScales x = Check.told("s0,1;g10;g5;p0,0,0," + weight + ";");
            for (int h = 0; h <= 20; h++) {
                check.due(weight + " by " + h + " kept", x.settles(0, h, 1), weight >= h ? 1 : 0);
                check.due(weight + " by " + h + " keeps", x.settles(0, h, 0), weight >= h ? 10 : 9);
                check.due("the other", x.settles(1, h, 0), 5);
                check.due("the other kept", x.settles(1, h, 1), 0);
            }
            check.due("h below", x.settles(0, -1, 0), BAD);
            check.due("h above", x.settles(0, 21, 0), BAD);
        }
        // What it weighs then: 10, and 12 by 6; the if by one kept.
        PromiseScales x = Check.told("s0,1;g5;p0,0,0,20;p0,0,1,20;i0,0,2,20;m0,0,3,0;");
        check.due("by 11 none of the first", x.settles(0, 11, 1), 1);
        check.due("by 10: 10, 12, 14, and 20 less 20 is broken", x.settles(0, 10, 1), 3);
        check.due("by 10 keeps", x.settles(0, 10, 0), 7);
        check.due("by 0: all", x.settles(0, 0, 1), 4);
    }

    private static void settlesByDays() {
        check.terms(3, "SETTLES by h (0 to 20): DAY by DAY (0 to 9), by numbers:");
        for (int day = 0; day <= 9; day++) {
            PromiseScales one = Check.told("s0,1;g5;p0,0," + day + ",20;");
            check.due("of day " + day, one.settles(0, 10, 0), 6);
            for (int other = 0; other <= 9; other++) {
                // The first weighs 9 and is broken; but 10, and is kept, behind the second that weighs 10.
                PromiseScales x = Check.told("s0,1;g5;p0,0," + day + ",18;p0,0," + other + ",20;");
                check.due("days " + day + ", " + other, x.settles(0, 10, 1), other < day ? 2 : 0);
            }
        }
        PromiseScales byNumbers = Check.told("s0,1;g5;p0,0,4,20;p0,0,4,18;");
        check.due("of one day by numbers", byNumbers.settles(0, 10, 1), 2);
    }

    private static void settlesAtTheEnds() {
        check.terms(3, "KEEPS of a GIVER at last; how many of its PROMISES are KEPT then (those KEPT ahead count).");
        PromiseScales eight = Check.told("s0,1;g5;" + "p0,0,0,0;".repeat(8));
        check.due("10 at most", eight.settles(0, 0, 0), 10);
        check.due("eight kept", eight.settles(0, 0, 1), 8);
        check.due("0 at least", eight.settles(0, 1, 0), 0);
        check.due("none kept", eight.settles(0, 1, 1), 0);
        PromiseScales x = Check.told("s0,1;g5;g5;p0,0,0,0;p0,0,0,0;p0,0,0,0;p1,0,0,0;");
        x.settle(0, 1);
        x.settle(1, 0);
        check.due("one kept ahead, 6, 5, 4", x.settles(0, 20, 0), 4);
        check.due("it counts", x.settles(0, 20, 1), 1);
        check.due("one broken ahead does not", x.settles(0, 0, 1), 2);
        check.due("keeps, 6, 5, 6", x.settles(0, 0, 0), 6);
        check.due("those of another do not count", x.settles(1, 20, 1), 0);
        x.settle(2, 1);
        check.due("all are settled", x.settles(0, 20, 0), 6);
        check.due("all are settled, by 0", x.settles(0, 0, 1), 2);
        check.due("one who gave none", Check.told("s0,1;g7;").settles(0, 20, 0), 7);
        check.due("one who gave none kept none", Check.told("s0,1;g7;").settles(0, 0, 1), 0);
    }

    private static void bestHeavy() {
        check.terms(3, "BEST h for a GIVER: the h by which KEEPS is greatest at last, of several the least.");
        String[] texts = {SEVEN, "s0,1;g0;g10;", "s0,1;g0;p0,0,0,20;", "s0,1;g10;p0,0,0,20;", "s0,1;g5;m0,0,0,0;m0,0,1,0;"};
        for (String text : texts) {
            PromiseScales x = Check.told(text);
            for (int giver = 0; giver < x.count(2); giver++) {
                int best = 20;
                for (int h = 20; h >= 0; h--) {
                    best = x.settles(giver, h, 0) >= x.settles(giver, best, 0) ? h : best;
                }
                check.due("best h of " + giver + " in " + text, x.bestHeavy(giver), best);
            }
        }
    }

    private static void waxesFound() {
        check.terms(3, "FOUND: a row tells sets and what they READ (two ITEMS each): WAXES (0 to 9, bits) by which, "
            + "with STICK as it is, all are so;");
        for (int stick = 1; stick <= 5; stick++) {
            PromiseScales x = Check.told("s7," + stick + ";");
            for (int v = 0; v <= 10; v++) {
                Check.put(x, 0, 0, v);
                int bits = 0;
                for (int wax = 0; wax <= 9; wax++) {
                    bits |= wax / stick * stick == v ? 1 << wax : 0;
                }
                check.due("none reads " + v + " by " + stick, x.found(0, 0, 1, 0), bits);
            }
        }
        PromiseScales x = Check.told("s0,3;g10;p0,0,0,13;p0,0,0,1;");
        Check.put(x, 0, 1, 15, 2, 3, 3, 15, 0, 3);
        check.due("13 reads 15: wax 2, 3, 4", x.found(0, 0, 1, 0), 4 + 8 + 16);
        check.due("1 reads 3, too: wax 2, 3, 4", x.found(0, 0, 2, 0), 4 + 8 + 16);
        check.due("14 reads 15, too: wax 2, 3", x.found(0, 0, 3, 0), 4 + 8);
        check.due("0 reads 3, too: wax 3", x.found(0, 0, 4, 0), 8);
        x.wax(9);
        check.due("whatever wax there is", x.found(0, 0, 4, 0), 8);
        Check.put(x, 0, 0, 3, 0, 6);
        check.due("no wax", x.found(0, 0, 2, 0), 0);
    }

    private static void sticksFound() {
        check.terms(3, "STICKS (1 to 5, bits 0 to 4) by which, with WAX as it is, all are so.");
        for (int wax = 0; wax <= 9; wax++) {
            PromiseScales x = Check.told("s0,3;");
            x.wax(wax);
            for (int v = 0; v <= 10; v++) {
                Check.put(x, 0, 0, v);
                int bits = 0;
                for (int stick = 1; stick <= 5; stick++) {
                    bits |= wax / stick * stick == v ? 1 << stick - 1 : 0;
                }
                check.due("wax " + wax + " reads " + v, x.found(0, 0, 1, 1), bits);
            }
        }
        PromiseScales x = Check.told("s2,4;g10;p0,0,0,18;p0,0,0,4;");
        Check.put(x, 0, 1, 20, 2, 6, 3, 24);
        check.due("20 reads 20: 1, 2, 4, 5", x.found(0, 0, 1, 1), 1 + 2 + 8 + 16);
        check.due("6 reads 6, too: 1, 2", x.found(0, 0, 2, 1), 1 + 2);
        check.due("24 reads 24, too: 1, 2", x.found(0, 0, 3, 1), 1 + 2);
        Check.put(x, 0, 0, 2, 0, 0);
        check.due("no stick", x.found(0, 0, 2, 1), 0);
    }

    private static void keepsFound() {
        check.terms(3, "KEEPS FOUND: a row tells WEIGHTS of all plain PROMISES of a GIVER that are not SETTLED, by numbers: "
            + "KEEPS (0 to 10, bits) by which they are so (all, if there are none).");
        PromiseScales x = Check.told("s0,1;g5;g5;g5;p0,0,0,20;p1,0,0,3;i0,0,0,7;o0,0,0,7;p0,0,0,1;p1,0,0,0;");
        for (int keeps = 0; keeps <= 10; keeps++) {
            Check.put(x, 0, 2 * keeps, keeps == 10 ? 1 : 0);
            check.due("20, 1 by " + keeps, x.keepsFound(0, 0, 0), 1 << keeps);
            Check.put(x, 0, 2 * keeps, keeps == 10 ? 0 : 1);
            check.due("20, 1 by none", x.keepsFound(0, 0, 0), 0);
        }
        Check.put(x, 0, 0, 0, 1, 0, 2, 0, 3, 0, 4, 0);
        int[] three = {1 + 2 + 4 + 8, 16 + 32 + 64, 128 + 256 + 512, 1024, 0};
        for (int weight = 0; weight <= 4; weight++) {
            check.due("3, 0 by " + weight, x.keepsFound(1, 0, 2 * weight), three[weight]);
        }
        check.due("none: all", x.keepsFound(2, 0, 0), 2047);
        x.settle(1, 1);
        check.due("0 alone: all", x.keepsFound(1, 0, 0), 2047);
        check.due("0 alone: none by 1", x.keepsFound(1, 0, 2), 0);
        x.settle(5, 0);
        check.due("all are settled: all", x.keepsFound(1, 0, 2), 2047);
    }

    private static void free() {
        check.terms(3, "FREE: a beam that sticks c of 10 times (0 to 10), weighed n times (0 to 8), each by itself: how likely "
            + "it is that at least one time it does not stick (n 0: 0): a fraction.");
        int[][] want = {{0, 1, 1, 1}, {0, 8, 1, 1}, {10, 1, 0, 1}, {10, 8, 0, 1}, {1, 1, 9, 10}, {9, 1, 1, 10}, {5, 1, 1, 2},
            {1, 2, 99, 100}, {5, 2, 3, 4}, {8, 2, 9, 25}, {5, 8, 255, 256}, {1, 8, 99999999, 100000000}, {9, 8, 56953279, 100000000}};
        PromiseScales x = new PromiseScales();
        for (int[] w : want) {
            check.due(w[0] + " of 10, " + w[1] + " times: above", x.free(w[0], w[1], 0), w[2]);
            check.due(w[0] + " of 10, " + w[1] + " times: below", x.free(w[0], w[1], 1), w[3]);
        }
        for (int c = 0; c <= 10; c++) {
            check.due("not weighed: 0", x.free(c, 0, 0), 0);
            check.due("not weighed: by 1", x.free(c, 0, 1), 1);
        }
    }

    private static void kinds() {
        check.terms(3, "KINDS of PROMISES: 0 PROMISE; 1 PLAIN, a PROMISE; 2 IF, a PLAIN one; 3 TWICE, a PLAIN one; "
            + "4 OATH, a PROMISE; 5 ABOUT, an OATH. By this it is asked.");
        PromiseScales x = Check.told("s0,1;g5;p0,0,0,0;i0,0,0,0;t0,0,0,0;o0,0,0,0;m0,0,0,0;");
        int[][] is = {{1, 1, 0, 0, 0, 0}, {1, 1, 1, 0, 0, 0}, {1, 1, 0, 1, 0, 0}, {1, 0, 0, 0, 1, 0}, {1, 0, 0, 0, 1, 1}};
        for (int p = 0; p < 5; p++) {
            for (int kind = 0; kind <= 5; kind++) {
                check.due(p + " as one of " + kind, x.as(p, kind), is[p][kind] == 1 ? p : KIND);
            }
        }
    }

    private static void asked(PromiseScales x, int promise, int what, int want, int... trace) {
        String call = "ask " + promise + " " + what;
        check.due(call, x.ask(promise, what), want);
        for (int i = 0; i < 17; i++) {
            check.due(call + " trace " + i, x.trace(i), i < trace.length ? trace[i] : NONE);
        }
    }

    /** One of each kind behind one about a promise that weighs 20; weights: 20, 6, 2, 1, 10, 10. */
    private static PromiseScales ofEachKind() {
        return Check.told("s0,1;g5;m0,0,0,20;p0,0,0,13;i0,0,0,14;t0,0,0,2;o0,0,0,11;m0,0,0,9;");
    }

    private static void sizes() {
        check.terms(4, "ASKS of PROMISES, by BODIES, each of which leaves its number in THE TRACE as it begins (the first 16):");
        check.terms(4, "0 SIZE: 10 lent to all PROMISES: LIKELY. 11 of PLAIN ones: what 10 gives, and MARK. "
            + "12 of IFS: 0 less what 11 gives. 13 of OATHS: what 10 gives, less 100. "
            + "14 of those ABOUT one: twice what 13 gives (asked once).");
        PromiseScales x = ofEachKind();
        asked(x, 0, 0, 2 * (20 - 100), 14, 13, 10);
        asked(x, 1, 0, 13 + (1 + 6), 11, 10, 21, 20);
        asked(x, 2, 0, -(14 + 2 * (2 + 2)), 12, 11, 10, 24, 21, 20);
        asked(x, 3, 0, 2 + (3 + 1) - 1000, 11, 10, 22, 21, 20);
        asked(x, 4, 0, 11 - 100, 13, 10);
        asked(x, 5, 0, 2 * (9 - 100), 14, 13, 10);
    }

    private static void marks() {
        check.terms(4, "1 MARK: 20 lent to all PROMISES: the number. 21 of PLAIN ones: what 20 gives, and WEIGHT. "
            + "22 of those said TWICE: what 21 gives, less 1000. 23 of OATHS: what 20 gives, less SIZE. "
            + "24 of IFS: twice what 21 gives (asked once).");
        PromiseScales x = ofEachKind();
        asked(x, 0, 1, 0 + 2 * 80, 23, 20, 14, 13, 10);
        asked(x, 1, 1, 1 + 6, 21, 20);
        asked(x, 2, 1, 2 * (2 + 2), 24, 21, 20);
        asked(x, 3, 1, 3 + 1 - 1000, 22, 21, 20);
        asked(x, 4, 1, 4 + 89, 23, 20, 13, 10);
        asked(x, 5, 1, 5 + 2 * 91, 23, 20, 14, 13, 10);
        PromiseScales last = Check.told("s0,1;g10;" + "p0,0,0,20;".repeat(8));
        asked(last, 7, 1, 7 + 20, 21, 20);
        asked(last, 0, 1, 0 + 20, 21, 20);
        PromiseScales light = Check.told("s0,1;g0;i0,0,0,0;o0,0,0,0;");
        asked(light, 0, 0, 0, 12, 11, 10, 24, 21, 20);
        asked(light, 1, 1, 1 + 100, 23, 20, 13, 10);
    }

    private static void asksOfSettledOnes() {
        PromiseScales x = ofEachKind();
        x.settle(1, 1);
        x.settle(2, 0);
        asked(x, 1, 1, 1 + 20, 21, 20);
        asked(x, 1, 0, 13 + 21, 11, 10, 21, 20);
        asked(x, 2, 1, 2 * 2, 24, 21, 20);
        asked(x, 2, 0, -(14 + 4), 12, 11, 10, 24, 21, 20);
    }

    private static void nearestBodies() {
        check.terms(4, "(Of an ask the BODY told for the KIND begins, else that of the nearest KIND that it is, too, "
            + "else the one that is lent; SIZE, MARK within others are asked of the same PROMISE anew.)");
        PromiseScales x = ofEachKind();
        int[][] begins = {{14, 23}, {11, 21}, {12, 24}, {11, 22}, {13, 23}, {14, 23}};
        for (int p = 0; p < 6; p++) {
            for (int what = 0; what <= 1; what++) {
                x.ask(p, what);
                check.due("the body that begins for " + p + ", " + what, x.trace(0), begins[p][what]);
            }
        }
        asked(x, 3, 0, 2 + 4 - 1000, 11, 10, 22, 21, 20);
        asked(x, 5, 1, 5 - x.ask(5, 0), 23, 20, 14, 13, 10);
    }
}
