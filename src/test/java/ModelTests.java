import java.util.Random;

/** All promises: long runs of calls, drawn from fixed seeds, each answered as the model answers it. */
public final class ModelTests {
    private static final int RUNS = 1500, CALLS = 512;
    /** No more calls than an object is used for: what tell() and foundRow() can take. */
    private static final int MOST_TO_TELL = 160, MOST_TO_FIND = 20;
    private static final int[] FAR = {Integer.MIN_VALUE, Integer.MIN_VALUE + 1, -1000000, -2, -1, 41, 121, 256, 1000,
        Integer.MAX_VALUE - 1, Integer.MAX_VALUE};

    private static final Check check = new Check("ModelTests");

    private final Random draw;
    private final int run;
    private final PromiseScales x = new PromiseScales();
    private final Model m = new Model();
    private int calls;

    private ModelTests(int run) {
        this.run = run;
        draw = new Random(run);
    }

    public static void main(String[] args) {
        for (int run = 1; run <= RUNS; run++) {
            new ModelTests(run).go();
        }
        everyByte("s2,3;g7;p0,1,3,18;m0,05,09,20;");
        check.end();
    }

    /** A text with each byte at each place of it, in place of what stands there or ahead of it, or with none. */
    private static void everyByte(String text) {
        for (int place = 0; place <= text.length(); place++) {
            String ahead = text.substring(0, place);
            for (char b = 0; b < 256; b++) {
                isReadAlike(ahead + b + text.substring(place));
                isReadAlike(ahead + b + text.substring(Math.min(place + 1, text.length())));
            }
            isReadAlike(ahead + text.substring(Math.min(place + 1, text.length())));
        }
    }

    private static void isReadAlike(String text) {
        PromiseScales x = new PromiseScales();
        Model m = new Model();
        for (int i = 0; i < text.length(); i++) {
            x.feed(text.charAt(i));
            m.feed(text.charAt(i));
        }
        check.due("scales of " + text, x.scales(), m.scales());
        check.due("fault of " + text, x.fault(), m.fault());
    }

    private void go() {
        if (run % 8 != 0) {
            tell();
        }
        while (calls < CALLS) {
            int die = draw.nextInt(40);
            if (die == 0 && draw.nextInt(3) == 0 && calls <= CALLS - MOST_TO_TELL) {
                tell();
            } else if (die < 3 && calls <= CALLS - MOST_TO_FIND) {
                foundRow();
            } else {
                call(1 + draw.nextInt(33));
            }
        }
    }

    private void due(String call, int got, int want) {
        calls++;
        check.due("run " + run + " call " + calls + " " + call, got, want);
    }

    /** A number from 0 to most, now and then one beyond that or far off. */
    private int upTo(int most) {
        int die = draw.nextInt(40);
        if (die == 0) {
            return FAR[draw.nextInt(FAR.length)];
        }
        return die == 1 ? draw.nextInt(most + 4) - 2 : draw.nextInt(most + 1);
    }

    private void tell() {
        String text = text();
        for (int k = draw.nextInt(4); k >= 3; k--) {
            text = spoilt(text);
        }
        for (int i = 0; i < text.length(); i++) {
            due("feed", x.feed(text.charAt(i)), m.feed(text.charAt(i)));
        }
        due("scales of " + text, x.scales(), m.scales());
        due("fault of " + text, x.fault(), m.fault());
    }

    private String text() {
        StringBuilder text = new StringBuilder("s").append(draw.nextInt(10)).append(',').append(1 + draw.nextInt(5)).append(';');
        int givers = draw.nextInt(40) == 0 ? draw.nextInt(6) : 1 + draw.nextInt(4);
        for (int g = 0; g < givers; g++) {
            text.append('g').append(draw.nextInt(11)).append(';');
        }
        int days = 1 + draw.nextInt(10);
        int promises = draw.nextInt(10);
        for (int p = 0; p < promises; p++) {
            text.append("pitom".charAt(draw.nextInt(5))).append(draw.nextInt(Math.max(1, givers)));
            text.append(',').append(draw.nextInt(6)).append(',').append(draw.nextInt(days));
            text.append(',').append(draw.nextInt(21)).append(';');
        }
        return text.toString();
    }

    private String spoilt(String text) {
        StringBuilder other = new StringBuilder(text);
        String signs = "0123456789,;spitomg z1";
        char sign = draw.nextInt(9) == 0 ? (char) draw.nextInt(256) : signs.charAt(draw.nextInt(signs.length()));
        int place = draw.nextInt(text.length());
        switch (draw.nextInt(4)) {
            case 0 -> other.setLength(place);
            case 1 -> other.deleteCharAt(place);
            case 2 -> other.insert(place, sign);
            default -> other.setCharAt(place, sign);
        }
        return other.toString();
    }

    /** Fills a row so that findings in it are likely: sets and what they read, or weights. */
    private void foundRow() {
        int r = draw.nextInt(8);
        due("row", x.row(r, 2, 16), m.row(r, 2, 16));
        int sets = 1 + draw.nextInt(3);
        for (int k = 0; k < sets; k++) {
            int set = draw.nextInt(1 << m.count(1));
            int reads = Math.max(0, m.reads(set));
            due("set", x.set(r, 2 * k, set), m.set(r, 2 * k, set));
            due("set", x.set(r, 2 * k + 1, reads), m.set(r, 2 * k + 1, reads));
        }
        int what = draw.nextInt(2);
        due("found", x.found(r, 0, sets, what), m.found(r, 0, sets, what));
        int giver = draw.nextInt(4);
        int place = 6;
        for (int p = 0; p < m.count(1); p++) {
            if (m.kind(p) == 1 && m.promise(p, 0) == giver && m.promise(p, 5) == 0) {
                int weight = m.promise(p, 4);
                due("set", x.set(r, place, weight), m.set(r, place, weight));
                place++;
            }
        }
        due("keepsFound", x.keepsFound(giver, r, 6), m.keepsFound(giver, r, 6));
    }

    private void call(int which) {
        int a = upTo(7);
        int b = upTo(1);
        int c = upTo(8);
        int g = upTo(3);
        int i = upTo(40);
        int j = upTo(40);
        switch (which) {
            case 1 -> due("row", x.row(a, g, i), m.row(a, g, i));
            case 2 -> due("set", x.set(a, i, draw(i * 977)), m.set(a, i, draw(i * 977)));
            case 3 -> due("copy", x.copy(a, i, g, j, c), m.copy(a, i, g, j, c));
            case 4 -> due("drop", x.drop(a), m.drop(a));
            case 5 -> due("lay", x.lay(a, b), m.lay(a, b));
            case 6 -> due("settle", calls % 3 == 0 ? x.settle(a, b) : 0, calls % 3 == 0 ? m.settle(a, b) : 0);
            case 7 -> due("wax", x.wax(c), m.wax(c));
            case 8 -> due("undo", x.undo(), m.undo());
            case 9 -> due("promise", x.promise(a, c), m.promise(a, c));
            case 10 -> due("keeps", x.keeps(g), m.keeps(g));
            case 11 -> due("reads", x.reads(i * 3), m.reads(i * 3));
            case 12 -> due("clash", x.clash(b), m.clash(b));
            case 13 -> due("bags", x.bags(i, b), m.bags(i, b));
            case 14 -> due("heaviest", x.heaviest(c, b), m.heaviest(c, b));
            case 15 -> due("worded", x.worded(a, g), m.worded(a, g));
            case 16 -> due("worded", x.worded(a, c), m.worded(a, c));
            case 17 -> due("price", x.price(a, i * 25), m.price(a, i * 25));
            case 18 -> due("prices", x.prices(g, i * 25), m.prices(g, i * 25));
            case 19 -> due("settles", x.settles(g, i / 2, b), m.settles(g, i / 2, b));
            case 20 -> due("bestHeavy", x.bestHeavy(g), m.bestHeavy(g));
            case 21 -> due("found", x.found(a, i, c, b), m.found(a, i, c, b));
            case 22 -> due("keepsFound", x.keepsFound(g, a, i), m.keepsFound(g, a, i));
            case 23 -> due("free", x.free(c, a, b), m.free(c, a, b));
            case 24 -> due("image", x.image(b), m.image(b));
            case 25 -> due("restore", draw(c) % 5 == 0 ? x.restore(b) : 0, draw(c) % 5 == 0 ? m.restore(b) : 0);
            case 26 -> due("kind", x.kind(a), m.kind(a));
            case 27 -> due("as", x.as(a, c), m.as(a, c));
            case 28, 29 -> due("ask", x.ask(a, b), m.ask(a, b));
            case 30 -> due("trace", x.trace(a), m.trace(a));
            case 31 -> due("count", x.count(c), m.count(c));
            case 32 -> due("status", x.status(), m.status());
            default -> due("bags", x.bags(i * 2, b), m.bags(i * 2, b));
        }
    }

    /** Some number of any size that hangs on another one and on the run alone. */
    private int draw(int n) {
        return (n + run) * 31337 >> 3;
    }
}
