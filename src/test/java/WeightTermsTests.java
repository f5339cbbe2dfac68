/** "Terms", part 2: weights, what sets read, acts, with the edges of each. */
public final class WeightTermsTests {
    private static final int STATE = -1000002;

    /** One of each kind, with two givers; weights: 12, 8, 3, 6, 14. */
    private static final String FIVE = "s2,3;g7;g4;p0,1,3,18;i0,2,3,20;t1,0,5,15;o1,1,5,9;m0,3,8,0;";

    private static final Check check = new Check("WeightTermsTests");

    public static void main(String[] args) {
        plain();
        ifs();
        twice();
        oaths();
        about();
        chains();
        settled();
        reads();
        laid();
        keptOrBroken();
        keepsAtTheEnds();
        wax();
        acts24();
        actsOfTheWholeLife();
        actsUndone();
        actsByWhichNothingChanges();
        whatIsNoAct();
        check.end();
    }

    private static int weight(String text, int promise) {
        return Check.told(text).promise(promise, 4);
    }

    private static void plain() {
        check.terms(2, "WEIGHT of a PROMISE that is not SETTLED: of a plain one LIKELY times KEEPS of its GIVER by 10;");
        for (int keeps = 0; keeps <= 10; keeps++) {
            for (int likely = 0; likely <= 20; likely++) {
                int tenth = 0;
                while (10 * (tenth + 1) <= likely * keeps) {
                    tenth++;
                }
                check.due(likely + " by " + keeps, weight("s0,1;g" + keeps + ";p0,0,0," + likely + ";", 0), tenth);
            }
        }
        check.due("of its own giver", weight("s0,1;g10;g1;p1,0,0,20;", 0), 2);
        check.due("of the last giver", weight("s0,1;g10;g10;g10;g3;p3,0,0,20;", 0), 6);
    }

    private static void ifs() {
        check.terms(2, "of an if that of a plain one (cut), times WEIGHT of the PROMISE of the number before, by 20 "
            + "(of PROMISE 0: that of a plain one);");
        for (int before = 0; before <= 20; before++) {
            for (int likely = 0; likely <= 20; likely++) {
                int part = 0;
                while (20 * (part + 1) <= before * likely) {
                    part++;
                }
                String text = "s0,1;g10;p0,0,0," + before + ";i0,0,0," + likely + ";";
                check.due(likely + " if " + before, weight(text, 1), part);
            }
        }
        check.due("17 (cut), times 20", weight("s0,1;g9;m0,0,0,0;i0,0,0,19;", 1), 17);
        check.due("17 (cut), times 18, by 20", weight("s0,1;g9;p0,0,0,20;i0,0,0,19;", 1), 15);
        check.due("1 (cut), times 19, by 20", weight("s0,1;g10;g1;p0,0,0,19;i1,0,0,19;", 1), 0);
        for (int keeps = 0; keeps <= 10; keeps++) {
            String text = "s0,1;g" + keeps + ";i0,0,0,19;p0,0,0,19;";
            check.due("of promise 0 by " + keeps, weight(text, 0), weight(text, 1));
        }
        check.due("of promise 0", weight("s0,1;g10;i0,0,0,20;", 0), 20);
        check.due("of promise 0, none", weight("s0,1;g10;i0,0,0,0;", 0), 0);
    }

    private static void twice() {
        check.terms(2, "of one said twice half of that of a plain one (that cut, the half cut up);");
        for (int likely = 0; likely <= 20; likely++) {
            int half = 0;
            while (2 * half < likely) {
                half++;
            }
            check.due("half of " + likely, weight("s0,1;g10;t0,0,0," + likely + ";", 0), half);
        }
        check.due("that is cut to 0", weight("s0,1;g9;t0,0,0,1;", 0), 0);
        check.due("that is cut to 2", weight("s0,1;g1;t0,0,0,20;", 0), 1);
        check.due("2.9, that is cut to 2", weight("s0,1;g1;g10;t1,0,0,3;", 0), 2);
        check.due("17.1, that is cut to 17", weight("s0,1;g9;t0,0,0,19;", 0), 9);
        check.due("16.2, that is cut to 16", weight("s0,1;g9;t0,0,0,18;", 0), 8);
    }

    private static void oaths() {
        check.terms(2, "of an oath twice that of a plain one, 20 at most;");
        int[] twice = {0, 2, 4, 6, 8, 10, 12, 14, 16, 18, 20, 20, 20, 20, 20, 20, 20, 20, 20, 20, 20};
        for (int likely = 0; likely <= 20; likely++) {
            check.due("twice " + likely, weight("s0,1;g10;o0,0,0," + likely + ";", 0), twice[likely]);
        }
        check.due("twice 17 by 5, cut to 8", weight("s0,1;g5;o0,0,0,17;", 0), 16);
        check.due("twice 19 by 5, cut to 9", weight("s0,1;g5;o0,0,0,19;", 0), 18);
        check.due("none", weight("s0,1;g0;o0,0,0,20;", 0), 0);
    }

    private static void about() {
        check.terms(2, "of one about a promise 20 less WEIGHT of the PROMISE of the number before (of PROMISE 0: 20).");
        for (int before = 0; before <= 20; before++) {
            check.due("about " + before, weight("s0,1;g10;p0,0,0," + before + ";m0,0,0,7;", 1), 20 - before);
        }
        check.due("of promise 0", weight("s0,1;g10;m0,0,0,20;", 0), 20);
        check.due("of promise 0, by 0", weight("s0,1;g0;m0,0,0,0;", 0), 20);
    }

    /** Eight in a row, each by the weight of the one before. */
    private static void chains() {
        String ifs = "s0,1;g10;p0,0,0,20;" + "i0,0,0,19;".repeat(7);
        int[] want = {20, 19, 18, 17, 16, 15, 14, 13};
        String abouts = "s0,1;g10;p0,0,0,6;" + "m0,0,0,0;".repeat(7);
        for (int p = 0; p < 8; p++) {
            check.due("if " + p, weight(ifs, p), want[p]);
            check.due("about " + p, weight(abouts, p), p % 2 == 0 ? 6 : 14);
        }
        PromiseScales x = Check.told(ifs);
        x.settle(3, 0);
        for (int p = 4; p < 8; p++) {
            check.due("an if by 0, " + p, x.promise(p, 4), 0);
        }
        check.due("ahead of it, 17 times 18 by 20", x.promise(1, 4), 15);
        check.due("ahead of it, 17 times 15 by 20", x.promise(2, 4), 12);
    }

    private static void settled() {
        check.terms(2, "One that is SETTLED weighs 20, if it was KEPT, else 0.");
        for (int keeps = 0; keeps <= 10; keeps += 5) {
            for (char sort : "pitom".toCharArray()) {
                for (int likely = 0; likely <= 20; likely += 10) {
                    String text = "s0,1;g" + keeps + ";" + sort + "0,0,0," + likely + ";m0,0,0,0;";
                    PromiseScales kept = Check.told(text);
                    kept.settle(0, 1);
                    check.due(text + " kept", kept.promise(0, 4), 20);
                    check.due(text + " about one kept", kept.promise(1, 4), 0);
                    PromiseScales broken = Check.told(text);
                    broken.settle(0, 0);
                    check.due(text + " broken", broken.promise(0, 4), 0);
                    check.due(text + " about one broken", broken.promise(1, 4), 20);
                }
            }
        }
        PromiseScales x = Check.told(FIVE);
        x.settle(4, 1);
        check.due("by what comes before", x.promise(4, 4), 20);
    }

    private static void reads() {
        check.terms(2, "A set READS: WEIGHTS of its PROMISES added, and WAX, less what is left over of all that by STICK.");
        for (int stick = 1; stick <= 5; stick++) {
            for (int wax = 0; wax <= 9; wax++) {
                PromiseScales x = Check.told("s" + wax + "," + stick + ";g10;p0,0,0,20;p0,0,0,13;p0,0,0,1;");
                for (int set = 0; set < 8; set++) {
                    int all = wax + (set & 1) * 20 + (set >> 1 & 1) * 13 + (set >> 2) * 1;
                    while (all % stick != 0) {
                        all--;
                    }
                    check.due("wax " + wax + " stick " + stick + " set " + set, x.reads(set), all);
                }
            }
        }
        PromiseScales most = Check.told("s9,1;g10;" + "p0,0,0,20;".repeat(8));
        check.due("the most", most.reads(255), 169);
        check.due("the least", Check.told("s0,5;").reads(0), 0);
        check.due("nothing but wax, all of it left over", Check.told("s4,5;").reads(0), 0);
        check.due("nothing left over", Check.told("s5,5;").reads(0), 5);
    }

    private static void laid() {
        check.terms(2, "A PROMISE that is not SETTLED is LAID into the PAN, or TAKEN out.");
        PromiseScales x = Check.told("s0,1;g10;" + "p0,0,0,1;".repeat(8));
        check.due("an empty pan", x.count(3), 0);
        for (int p = 0; p < 8; p++) {
            check.due("laid " + p, x.lay(p, 1), p + 1);
            check.due("in the pan " + p, x.promise(p, 6), 1);
        }
        check.due("a full pan", x.count(3), 255);
        for (int p = 0; p < 8; p++) {
            check.due("taken " + p, x.lay(p, 0), 7 - p);
            check.due("not in the pan " + p, x.promise(p, 6), 0);
        }
        check.due("an empty pan again", x.count(3), 0);
        x.settle(7, 1);
        check.due("settled", x.lay(7, 1), STATE);
        check.due("and not laid", x.count(3), 0);
    }

    private static void keptOrBroken() {
        check.terms(2, "It is KEPT, or BROKEN: it is SETTLED, no longer in the PAN;");
        for (int kept = 0; kept <= 1; kept++) {
            PromiseScales x = Check.told("s0,1;g10;" + "p0,0,0,1;".repeat(8));
            for (int p = 0; p < 8; p++) {
                x.lay(p, 1);
            }
            for (int p = 0; p < 8; p++) {
                check.due("not settled " + p, x.promise(p, 5), 0);
                x.settle(p, kept);
                check.due("settled " + p, x.promise(p, 5), kept == 1 ? 1 : 2);
                check.due("no longer in the pan " + p, x.promise(p, 6), 0);
                check.due("the others are", x.count(3), 256 - (2 << p));
            }
        }
    }

    private static void keepsAtTheEnds() {
        check.terms(2, "KEEPS of its GIVER is 1 more, or less (0 to 10).");
        for (int keeps = 0; keeps <= 10; keeps++) {
            String text = "s0,1;g5;g" + keeps + ";g5;p1,0,0,20;p1,0,0,20;";
            PromiseScales kept = Check.told(text);
            check.due("one kept, " + keeps, kept.settle(0, 1), keeps < 10 ? keeps + 1 : 10);
            check.due("another kept, " + keeps, kept.settle(1, 1), keeps < 9 ? keeps + 2 : 10);
            PromiseScales broken = Check.told(text);
            check.due("one broken, " + keeps, broken.settle(0, 0), keeps > 0 ? keeps - 1 : 0);
            check.due("another broken, " + keeps, broken.settle(1, 0), keeps > 1 ? keeps - 2 : 0);
            check.due("no other giver", kept.keeps(0) + kept.keeps(2) + broken.keeps(0) + broken.keeps(2), 20);
            PromiseScales both = Check.told(text);
            both.settle(0, 1);
            check.due("one kept, one broken, " + keeps, both.settle(1, 0), keeps < 10 ? keeps : 9);
        }
    }

    private static void wax() {
        check.terms(2, "WAX is other.");
        PromiseScales x = Check.told("s3,1;");
        for (int wax = 0; wax <= 9; wax++) {
            x.wax(wax);
            check.due("wax", x.count(5), wax);
            check.due("it reads", x.reads(0), wax);
        }
        check.due("stick is left", x.count(6), 1);
    }

    private static void acts24() {
        check.terms(2, "ACTS (24 at most are kept, of more the oldest is forgotten;");
        for (int acts = 0; acts <= 50; acts++) {
            PromiseScales x = Check.told("s0,1;");
            for (int act = 1; act <= acts; act++) {
                x.wax(act % 10);
                check.due("acts", x.count(7), Math.min(act, 24));
            }
            for (int left = Math.min(acts, 24) - 1; left >= 0; left--) {
                check.due("undone of " + acts, x.undo(), left);
            }
            check.due("none more of " + acts, x.undo(), STATE);
            check.due("wax ahead of the oldest of " + acts, x.count(5), Math.max(0, acts - 24) % 10);
        }
    }

    /** As many calls as an object is used for. */
    private static void actsOfTheWholeLife() {
        PromiseScales x = new PromiseScales();
        Check.tell(x, "s0,1;");
        int calls = 6;
        while (calls < 512 - 25) {
            calls++;
            x.wax(calls % 10);
        }
        for (int left = 23; left >= 0; left--) {
            check.due("undone at last", x.undo(), left);
        }
        check.due("call 512", x.undo(), STATE);
    }

    private static void actsUndone() {
        check.terms(2, "each can be undone, the latest first;");
        for (int p = 0; p < 8; p++) {
            for (int kept = 0; kept <= 1; kept++) {
                PromiseScales x = Check.told("s0,1;g5;g5;" + "p0,0,0,10;p1,0,0,20;".repeat(4));
                x.lay(p, 1);
                x.settle(p, kept);
                x.wax(9);
                undone(x, "wax", 2, kept == 1 ? 1 : 2, 0, kept == 1 ? 6 : 4, p);
                undone(x, "settled", 1, 0, 1, 5, p);
                undone(x, "laid", 0, 0, 0, 5, p);
                check.due("can be settled again", x.settle(p, 1 - kept), kept == 1 ? 4 : 6);
                check.due("can be undone again", x.undo(), 0);
                check.due("can be laid again", x.lay(p, 1), p % 2 == 0 ? 5 : 10);
            }
        }
        PromiseScales x = Check.told(FIVE);
        x.lay(2, 1);
        x.lay(2, 0);
        x.undo();
        check.due("taken, undone", x.promise(2, 6), 1);
        x.undo();
        check.due("laid, undone", x.promise(2, 6), 0);
        check.due("none more", x.undo(), STATE);
    }

    private static void undone(PromiseScales x, String what, int left, int settled, int inPan, int keeps, int p) {
        check.due(what + " undone", x.undo(), left);
        check.due(what + " undone: wax", x.count(5), 0);
        check.due(what + " undone: settled " + p, x.promise(p, 5), settled);
        check.due(what + " undone: in the pan " + p, x.promise(p, 6), inPan);
        check.due(what + " undone: keeps", x.keeps(p % 2), keeps);
        check.due(what + " undone: keeps of the other", x.keeps(1 - p % 2), 5);
    }

    private static void actsByWhichNothingChanges() {
        check.terms(2, "also such by which nothing becomes another): LAID or TAKEN, KEPT or BROKEN, WAX.");
        PromiseScales x = Check.told("s4,1;g10;g0;p0,0,0,0;p1,0,0,20;");
        check.due("the same wax", x.wax(4), 4);
        check.due("an act", x.count(7), 1);
        check.due("laid, and it weighs 0", x.lay(0, 1), 4);
        check.due("an act, too", x.count(7), 2);
        check.due("kept, 10 as before", x.settle(0, 1), 10);
        check.due("broken, 0 as before", x.settle(1, 0), 0);
        check.due("acts, too", x.count(7), 4);
        check.due("broken undone", x.undo(), 3);
        check.due("0 is 0", x.keeps(1), 0);
        check.due("not settled", x.promise(1, 5), 0);
        check.due("kept undone", x.undo(), 2);
        check.due("10 is 10", x.keeps(0), 10);
        check.due("not settled, too", x.promise(0, 5), 0);
        check.due("laid undone", x.undo(), 1);
        check.due("wax undone", x.undo(), 0);
        check.due("wax is 4", x.count(5), 4);
    }

    private static void whatIsNoAct() {
        PromiseScales x = Check.told(FIVE);
        x.settle(0, 1);
        x.wax(10);
        x.lay(0, 1);
        x.lay(1, 0);
        x.lay(9, 1);
        x.settle(0, 1);
        x.settle(1, 2);
        x.image(0);
        x.row(0, 0, 1);
        x.feed('s');
        x.settles(0, 0, 0);
        x.worded(1, 2);
        x.ask(1, 0);
        check.due("settled alone is an act", x.count(7), 1);
        check.due("it is undone", x.undo(), 0);
        check.due("not settled", x.promise(0, 5), 0);
    }
}
