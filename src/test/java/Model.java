import java.util.ArrayDeque;
import java.util.ArrayList;
import java.util.Deque;
import java.util.List;
import java.util.TreeSet;
import java.util.regex.Matcher;
import java.util.regex.Pattern;

/**
 * The document told a second time, with the Java library and in another way than the class: acts
 * by whole copies, texts by patterns, asks by default methods. What both answer must be the same.
 */
final class Model {
    static final int NONE = -1000000, BAD = -1000001, STATE = -1000002, FULL = -1000003;

    /** Asks as the document lends them; each promise is of a class of its kind. */
    interface Asked {
        Model model();
        Told told();

        default int size() {
            model().traced(10);
            return told().likely;
        }

        default int mark() {
            model().traced(20);
            return told().number;
        }
    }

    record Bare(Model model, Told told) implements Asked { }

    static class Plain implements Asked {
        final Model model;
        final Told told;

        Plain(Model model, Told told) {
            this.model = model;
            this.told = told;
        }

        @Override public Model model() {
            return model;
        }

        @Override public Told told() {
            return told;
        }

        @Override public int size() {
            model.traced(11);
            return Asked.super.size() + mark();
        }

        @Override public int mark() {
            model.traced(21);
            return Asked.super.mark() + model.now.weight(told.number);
        }
    }

    static final class If extends Plain {
        If(Model model, Told told) {
            super(model, told);
        }

        @Override public int size() {
            model.traced(12);
            return 0 - super.size();
        }

        @Override public int mark() {
            model.traced(24);
            return 2 * super.mark();
        }
    }

    static final class Twice extends Plain {
        Twice(Model model, Told told) {
            super(model, told);
        }

        @Override public int mark() {
            model.traced(22);
            return super.mark() - 1000;
        }
    }

    static class Oath implements Asked {
        final Model model;
        final Told told;

        Oath(Model model, Told told) {
            this.model = model;
            this.told = told;
        }

        @Override public Model model() {
            return model;
        }

        @Override public Told told() {
            return told;
        }

        @Override public int size() {
            model.traced(13);
            return Asked.super.size() - 100;
        }

        @Override public int mark() {
            model.traced(23);
            return Asked.super.mark() - size();
        }
    }

    static final class About extends Oath {
        About(Model model, Told told) {
            super(model, told);
        }

        @Override public int size() {
            model.traced(14);
            return 2 * super.size();
        }
    }

    Asked asked(Told told) {
        return switch (told.sort) {
            case 'p' -> new Plain(this, told);
            case 'i' -> new If(this, told);
            case 't' -> new Twice(this, told);
            case 'o' -> new Oath(this, told);
            case 'm' -> new About(this, told);
            default -> new Bare(this, told);
        };
    }

    /** A promise as it is told; nothing of it becomes another. */
    static final class Told {
        final int number;
        final char sort;
        final int giver, deed, day, likely;

        Told(int number, char sort, List<Integer> numbers) {
            this.number = number;
            this.sort = sort;
            giver = numbers.get(0);
            deed = numbers.get(1);
            day = numbers.get(2);
            likely = numbers.get(3);
        }
    }

    static final class Scales {
        int wax, stick;
        final List<Integer> keeps = new ArrayList<>();
        final List<Told> told = new ArrayList<>();
        final List<Boolean> settled = new ArrayList<>();
        final TreeSet<Integer> pan = new TreeSet<>();

        Scales copy() {
            Scales other = new Scales();
            other.wax = wax;
            other.stick = stick;
            other.keeps.addAll(keeps);
            other.told.addAll(told);
            other.settled.addAll(settled);
            other.pan.addAll(pan);
            return other;
        }

        int weight(int p) {
            if (settled.get(p) != null) {
                return settled.get(p) ? 20 : 0;
            }
            return weight(p, told.get(p).sort);
        }

        int weight(int p, char sort) {
            Told t = told.get(p);
            int plain = (int) Math.floor(t.likely * keeps.get(t.giver) / 10.0);
            if (sort == 'i' && p > 0) {
                return (int) Math.floor(plain * weight(p - 1) / 20.0);
            }
            if (sort == 't') {
                return (int) Math.ceil(plain / 2.0);
            }
            if (sort == 'o') {
                return plain > 10 ? 20 : plain + plain;
            }
            if (sort == 'm') {
                return p > 0 ? 20 - weight(p - 1) : 20;
            }
            return plain;
        }

        int reads(Iterable<Integer> set, int byWax, int byStick) {
            int all = byWax;
            for (int p : set) {
                all += weight(p);
            }
            while (all % byStick != 0) {
                all--;
            }
            return all;
        }

        void settle(int p, boolean kept) {
            int g = told.get(p).giver;
            settled.set(p, kept);
            pan.remove(p);
            keeps.set(g, Math.max(0, Math.min(10, keeps.get(g) + (kept ? 1 : -1))));
        }

        boolean clash(int p, int q) {
            Told a = told.get(p);
            Told b = told.get(q);
            return settled.get(p) == null && settled.get(q) == null
                && a.giver == b.giver && a.day == b.day && a.deed != b.deed;
        }

        /** Sets by their numbers, but for those that are none. */
        List<List<Integer>> bags() {
            List<List<Integer>> bags = new ArrayList<>();
            for (int bits = 0; bits < 1 << told.size(); bits++) {
                List<Integer> set = setOf(bits);
                boolean is = true;
                for (int p : set) {
                    is &= settled.get(p) == null;
                    for (int q : set) {
                        is &= !clash(p, q);
                    }
                }
                if (is) {
                    bags.add(set);
                }
            }
            return bags;
        }

        Scales settledBy(int h) {
            Scales then = copy();
            for (int day = 0; day < 10; day++) {
                for (Told t : told) {
                    if (t.day == day && then.settled.get(t.number) == null) {
                        then.settle(t.number, then.weight(t.number) >= h);
                    }
                }
            }
            return then;
        }
    }

    static List<Integer> setOf(int bits) {
        List<Integer> set = new ArrayList<>();
        for (int p = 0; p < 31; p++) {
            if ((bits & 1 << p) != 0) {
                set.add(p);
            }
        }
        return set;
    }

    static int bitsOf(Iterable<Integer> set) {
        int bits = 0;
        for (int p : set) {
            bits += 1 << p;
        }
        return bits;
    }

    Scales now;
    final Scales[] images = new Scales[2];
    final Deque<Scales> acts = new ArrayDeque<>();
    final StringBuilder tape = new StringBuilder();
    final List<Integer> trace = new ArrayList<>();
    final int[][] rows = new int[8][];
    final int[] lanes = new int[8];
    int fault, status, faultPlace;

    void traced(int body) {
        trace.add(body);
    }

    private boolean noRow(int r) {
        return r < 0 || r > 7;
    }

    private boolean noPromise(int p) {
        return now == null || p < 0 || p >= now.told.size();
    }

    private boolean noGiver(int g) {
        return now == null || g < 0 || g >= now.keeps.size();
    }

    private static boolean no(int n, int most) {
        return n < 0 || n > most;
    }

    private int find(int number) {
        status = number;
        return -1000010 - number;
    }

    private int fine(int answer) {
        status = 0;
        return answer;
    }

    int row(int r, int lane, int n) {
        if (noRow(r) || no(lane, 2) || n > 40) return BAD;
        if (n < 0) return find(4);
        rows[r] = new int[n];
        lanes[r] = lane;
        return fine(n);
    }

    private boolean outside(int r, int i, int n) {
        return i < 0 || n < 0 || (long) i + n > rows[r].length;
    }

    int set(int r, int i, int v) {
        if (noRow(r)) return BAD;
        if (rows[r] == null) return find(1);
        if (outside(r, i, 1)) return find(2);
        int bits = new int[] {8, 16, 32}[lanes[r]];
        rows[r][i] = v << 32 - bits >> 32 - bits;
        return fine(rows[r][i]);
    }

    int copy(int a, int i, int b, int j, int n) {
        if (noRow(a) || noRow(b)) return BAD;
        if (rows[a] == null || rows[b] == null) return find(1);
        if (lanes[a] != lanes[b]) return find(5);
        if (outside(a, i, n) || outside(b, j, n)) return find(2);
        int[] ahead = rows[a].clone();
        for (int k = 0; k < n; k++) {
            rows[b][j + k] = ahead[i + k];
        }
        return fine(n);
    }

    int drop(int r) {
        if (noRow(r)) return BAD;
        if (rows[r] == null) return find(1);
        int had = rows[r].length;
        rows[r] = null;
        return fine(had);
    }

    int feed(int letter) {
        if (no(letter, 255)) return BAD;
        if (tape.length() == 120) return FULL;
        tape.append((char) letter);
        return tape.length();
    }

    private static final Pattern TOKENS = Pattern.compile("[0-9]+|.", Pattern.DOTALL);

    int scales() {
        String text = tape.toString();
        tape.setLength(0);
        Scales read = new Scales();
        int number = read(read, text);
        if (number != 0) {
            fault = number;
            return -1000100 - faultPlace;
        }
        now = read;
        acts.clear();
        return now.told.size();
    }

    /** Goes from token to token with what must stand yet: N a number, else the sign itself. */
    private int read(Scales read, String text) {
        Matcher tokens = TOKENS.matcher(text);
        String due = "sN,N;";
        char part = 's';
        List<Integer> numbers = new ArrayList<>();
        while (tokens.find()) {
            String token = tokens.group();
            char first = token.charAt(0);
            faultPlace = tokens.start();
            if (due.isEmpty()) {
                boolean giver = first == 'g' && read.told.isEmpty();
                if (!giver && "pitom".indexOf(first) < 0) return 1;
                if (giver ? read.keeps.size() == 4 : read.told.size() == 8) return 3;
                part = first;
                due = giver ? "N;" : "N,N,N,N;";
                numbers.clear();
                continue;
            }
            if (due.charAt(0) == 'N') {
                if (!token.matches("[0-9]{1,2}")) return 1;
                int n = Integer.parseInt(token);
                // A law's numbers are from 0 and from 1 on.
                int least = part == 's' ? numbers.size() : 0;
                int most = part == 's' ? new int[] {9, 5}[numbers.size()] : part == 'g' ? 10
                    : new int[] {read.keeps.size() - 1, 5, 9, 20}[numbers.size()];
                if (n < least || n > most) return 2;
                numbers.add(n);
            } else if (due.charAt(0) != first || token.length() > 1) {
                return 1;
            }
            due = due.substring(1);
            if (due.isEmpty()) {
                end(read, part, numbers);
            }
        }
        faultPlace = text.length();
        return due.isEmpty() ? 0 : 1;
    }

    private static void end(Scales read, char part, List<Integer> numbers) {
        if (part == 's') {
            read.wax = numbers.get(0);
            read.stick = numbers.get(1);
        } else if (part == 'g') {
            read.keeps.add(numbers.get(0));
        } else {
            read.told.add(new Told(read.told.size(), part, numbers));
            read.settled.add(null);
        }
    }

    int fault() {
        return fault;
    }

    private void act() {
        acts.push(now.copy());
        if (acts.size() > 24) {
            acts.removeLast();
        }
    }

    private int panReads() {
        return now == null ? 0 : now.reads(now.pan, now.wax, now.stick);
    }

    int lay(int p, int is) {
        if (noPromise(p) || no(is, 1)) return BAD;
        if (now.settled.get(p) != null || now.pan.contains(p) == (is == 1)) return STATE;
        act();
        if (is == 1) {
            now.pan.add(p);
        } else {
            now.pan.remove(p);
        }
        return panReads();
    }

    int settle(int p, int kept) {
        if (noPromise(p) || no(kept, 1)) return BAD;
        if (now.settled.get(p) != null) return STATE;
        act();
        now.settle(p, kept == 1);
        return now.keeps.get(now.told.get(p).giver);
    }

    int wax(int n) {
        if (now == null) return STATE;
        if (no(n, 9)) return BAD;
        act();
        int was = now.wax;
        now.wax = n;
        return was;
    }

    int undo() {
        if (acts.isEmpty()) return STATE;
        now = acts.pop();
        return acts.size();
    }

    int promise(int p, int what) {
        if (noPromise(p) || no(what, 6)) return BAD;
        Told t = now.told.get(p);
        Boolean settled = now.settled.get(p);
        return new int[] {t.giver, t.deed, t.day, t.likely, now.weight(p),
            settled == null ? 0 : settled ? 1 : 2, now.pan.contains(p) ? 1 : 0}[what];
    }

    int keeps(int g) {
        return noGiver(g) ? BAD : now.keeps.get(g);
    }

    private boolean noSet(int set) {
        return no(set, (1 << now.told.size()) - 1);
    }

    int reads(int set) {
        if (now == null) return STATE;
        return noSet(set) ? BAD : now.reads(setOf(set), now.wax, now.stick);
    }

    int clash(int what) {
        if (now == null) return STATE;
        if (no(what, 1)) return BAD;
        TreeSet<Integer> pairs = new TreeSet<>();
        for (Told a : now.told) {
            for (Told b : now.told) {
                if (a.number < b.number && now.clash(a.number, b.number)) {
                    pairs.add(8 * a.number + b.number);
                }
            }
        }
        return what == 0 ? pairs.size() : pairs.isEmpty() ? NONE : pairs.first();
    }

    int bags(int v, int what) {
        if (now == null) return STATE;
        if (no(v, 200) || no(what, 1)) return BAD;
        List<List<Integer>> bags = now.bags();
        bags.removeIf(set -> now.reads(set, now.wax, now.stick) != v);
        if (what == 0) return bags.size();
        bags.sort((a, b) -> a.size() != b.size() ? a.size() - b.size() : bitsOf(a) - bitsOf(b));
        return bags.isEmpty() ? NONE : bitsOf(bags.get(0));
    }

    int heaviest(int n, int what) {
        if (now == null) return STATE;
        if (no(n, 8) || no(what, 1)) return BAD;
        List<List<Integer>> bags = now.bags();
        bags.removeIf(set -> set.size() > n);
        bags.sort((a, b) -> {
            int heavier = now.reads(b, now.wax, now.stick) - now.reads(a, now.wax, now.stick);
            return heavier != 0 ? heavier : bitsOf(a) - bitsOf(b);
        });
        return what == 0 ? now.reads(bags.get(0), now.wax, now.stick) : bitsOf(bags.get(0));
    }

    int worded(int p, int kind) {
        if (noPromise(p) || no(kind, 5)) return BAD;
        if (now.settled.get(p) != null) return STATE;
        if (kind > 0) return now.weight(p, "-pitom".charAt(kind));
        int best = 5;
        for (int k = 4; k >= 1; k--) {
            if (worded(p, k) >= worded(p, best)) best = k;
        }
        return best;
    }

    int price(int p, int v) {
        return noPromise(p) || no(v, 999) ? BAD : v * now.weight(p) / 20;
    }

    int prices(int g, int v) {
        if (noGiver(g) || no(v, 999)) return BAD;
        return now.told.stream().filter(t -> t.giver == g && now.settled.get(t.number) == null)
            .mapToInt(t -> price(t.number, v)).sum();
    }

    int settles(int g, int h, int what) {
        if (noGiver(g) || no(h, 20) || no(what, 1)) return BAD;
        Scales then = now.settledBy(h);
        if (what == 0) return then.keeps.get(g);
        return (int) then.told.stream().filter(t -> t.giver == g && then.settled.get(t.number)).count();
    }

    int bestHeavy(int g) {
        if (noGiver(g)) return BAD;
        int best = 20;
        for (int h = 19; h >= 0; h--) {
            if (settles(g, h, 0) >= settles(g, best, 0)) best = h;
        }
        return best;
    }

    int found(int r, int i, int n, int what) {
        if (now == null) return STATE;
        if (noRow(r) || n < 1 || n > 8 || no(what, 1)) return BAD;
        if (rows[r] == null) return find(1);
        if (outside(r, i, 2 * n)) return find(2);
        for (int k = 0; k < n; k++) {
            if (noSet(rows[r][i + 2 * k])) return BAD;
        }
        int found = 0;
        for (int by = what; by <= (what == 0 ? 9 : 5); by++) {
            boolean so = true;
            for (int k = 0; k < n; k++) {
                int reads = now.reads(setOf(rows[r][i + 2 * k]), what == 0 ? by : now.wax, what == 0 ? now.stick : by);
                so &= reads == rows[r][i + 2 * k + 1];
            }
            if (so) found += 1 << by - what;
        }
        return fine(found);
    }

    int keepsFound(int g, int r, int i) {
        if (noGiver(g) || noRow(r)) return BAD;
        if (rows[r] == null) return find(1);
        List<Told> plain = new ArrayList<>(now.told);
        plain.removeIf(t -> t.giver != g || t.sort != 'p' || now.settled.get(t.number) != null);
        if (outside(r, i, plain.size())) return find(2);
        int found = 0;
        for (int keeps = 0; keeps <= 10; keeps++) {
            Scales other = now.copy();
            other.keeps.set(g, keeps);
            boolean so = true;
            for (int k = 0; k < plain.size(); k++) {
                so &= other.weight(plain.get(k).number) == rows[r][i + k];
            }
            if (so) found += 1 << keeps;
        }
        return fine(found);
    }

    int free(int c, int n, int what) {
        if (no(c, 10) || no(n, 8) || no(what, 1)) return BAD;
        java.math.BigInteger below = java.math.BigInteger.TEN.pow(n);
        java.math.BigInteger above = below.subtract(java.math.BigInteger.valueOf(c).pow(n));
        return (what == 0 ? above : below).divide(above.gcd(below)).intValueExact();
    }

    int image(int k) {
        if (no(k, 1)) return BAD;
        if (now == null) return STATE;
        images[k] = now.copy();
        return 1;
    }

    int restore(int k) {
        if (no(k, 1)) return BAD;
        if (images[k] == null) return STATE;
        now = images[k].copy();
        acts.clear();
        return 1;
    }

    int kind(int p) {
        return noPromise(p) ? BAD : "-pitom".indexOf(now.told.get(p).sort);
    }

    int as(int p, int kind) {
        if (noPromise(p) || no(kind, 5)) return BAD;
        Class<?>[] kinds = {Asked.class, Plain.class, If.class, Twice.class, Oath.class, About.class};
        return kinds[kind].isInstance(asked(now.told.get(p))) ? fine(p) : find(3);
    }

    int ask(int p, int what) {
        if (noPromise(p) || no(what, 1)) return BAD;
        trace.clear();
        Asked asked = asked(now.told.get(p));
        return what == 0 ? asked.size() : asked.mark();
    }

    int trace(int i) {
        return i < 0 || i >= Math.min(16, trace.size()) ? NONE : trace.get(i);
    }

    int count(int what) {
        if (no(what, 8)) return BAD;
        int there = 0;
        for (int[] row : rows) {
            there += row == null ? 0 : 1;
        }
        return new int[] {there, now == null ? 0 : now.told.size(), now == null ? 0 : now.keeps.size(),
            now == null ? 0 : bitsOf(now.pan), panReads(), now == null ? 0 : now.wax,
            now == null ? 0 : now.stick, acts.size(), tape.length()}[what];
    }

    int status() {
        return status;
    }
}
