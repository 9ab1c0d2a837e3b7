import java.util.ArrayList;
import java.util.HashMap;
import java.util.List;
import java.util.Map;

/**
 * The document once more, by other means and without a thought of cost: a tree for each E, a new state for each
 * season, all cases tried. ModelTest holds the class against it.
 */
final class Model {
    static final int NONE = -1;

    /** An E that can be worked out by the values of its names. */
    interface Tree {
        /** Throws ArithmeticException for an ERROR. */
        long value(Map<String, Long> names);
    }

    static final class Fault extends Exception {
        private static final long serialVersionUID = 1L;
        final int kind;
        final int place;

        Fault(int kind, int place) {
            this.kind = kind;
            this.place = place;
        }
    }

    static final class Told {
        final List<String> regions = new ArrayList<>();
        final List<int[]> regionRows = new ArrayList<>();
        final List<int[]> joins = new ArrayList<>();
        final List<String> people = new ArrayList<>();
        final List<int[]> peopleRows = new ArrayList<>();
        final List<int[]> debts = new ArrayList<>();
        final Map<String, Tree> laws = new HashMap<>();
        int tear = 2;
        boolean tearTold;
        int knots;
        int lines;
    }

    static final class State {
        int[] scale;
        boolean[] torn;
        long[] yielded;
        int[] home;
        Integer[] called;
        int[] tooBig;
        int season;

        State copy() {
            State s = new State();
            s.scale = scale.clone();
            s.torn = torn.clone();
            s.yielded = yielded.clone();
            s.home = home.clone();
            s.called = called.clone();
            s.tooBig = tooBig.clone();
            s.season = season;
            return s;
        }
    }

    private final StringBuilder tape = new StringBuilder();
    private Told told = new Told();
    private State now = start(told);
    private State image;
    private final List<State> undo = new ArrayList<>();
    private final List<int[]> stones = new ArrayList<>();
    private int known = NONE;
    private int fault;
    private int faultPlace = NONE;

    // ---- reading ----

    private static final List<String> LANGUAGE = List.of("region", "join", "person", "debt", "yard", "tear", "law",
            "gain", "yield", "way", "or", "and", "not", "scale", "size", "area", "length", "crowd", "torn", "season");
    private static final List<String> NAMES = LANGUAGE.subList(13, 20);

    private static final class Parser {
        final String text;
        final Told t = new Told();
        int at;
        String token;
        int next;
        int open;

        Parser(String text) {
            this.text = text;
        }

        /** The token at hand is text[at, next); an empty one is the end. */
        void step() {
            at = next;
            while (at < text.length() && (text.charAt(at) == 10 || text.charAt(at) == ' ')) {
                at++;
            }
            next = at;
            String rest = text.substring(at);
            for (String form : new String[] {"[a-z]+", "[0-9]+", "<=", "<>", ">=", "."}) {
                java.util.regex.Matcher m = java.util.regex.Pattern.compile(form, java.util.regex.Pattern.DOTALL).matcher(rest);
                if (m.lookingAt()) {
                    next = at + m.end();
                    break;
                }
            }
            token = text.substring(at, next);
        }

        boolean own() {
            return token.matches("[a-z]{1,6}") && !LANGUAGE.contains(token);
        }

        void must(boolean so, int kind) throws Fault {
            if (!so) {
                throw new Fault(kind, at);
            }
        }

        int number(int low, int high) throws Fault {
            must(token.matches("[0-9]+"), 1);
            java.math.BigInteger n = new java.math.BigInteger(token);
            must(n.compareTo(java.math.BigInteger.valueOf(low)) >= 0 && n.compareTo(java.math.BigInteger.valueOf(high)) <= 0, 2);
            step();
            return n.intValue();
        }

        String fresh(List<String> ones) throws Fault {
            must(own(), 1);
            must(!ones.contains(token), 3);
            String name = token;
            step();
            return name;
        }

        int old(List<String> ones) throws Fault {
            must(own(), 1);
            must(ones.contains(token), 4);
            int k = ones.indexOf(token);
            step();
            return k;
        }

        Told all() throws Fault {
            step();
            while (!token.isEmpty()) {
                line();
                must(token.equals(";"), 1);
                step();
                t.lines++;
            }
            return t;
        }

        void line() throws Fault {
            switch (token) {
                case "region": {
                    must(t.regions.size() < 6, 2);
                    step();
                    String name = fresh(t.regions);
                    int[] row = {number(1, 9), number(1, 99), number(0, 9)};
                    t.regions.add(name);
                    t.regionRows.add(row);
                    break;
                }
                case "join": {
                    must(t.joins.size() < 9, 2);
                    step();
                    int one = old(t.regions);
                    int place = at;
                    int other = old(t.regions);
                    for (int[] j : t.joins) {
                        if (j[0] == one && j[1] == other || j[0] == other && j[1] == one) {
                            throw new Fault(3, place);
                        }
                    }
                    if (one == other) {
                        throw new Fault(5, place);
                    }
                    t.joins.add(new int[] {one, other, number(1, 9)});
                    break;
                }
                case "person": {
                    must(t.people.size() < 8, 2);
                    step();
                    String name = fresh(t.people);
                    int[] row = {old(t.regions), number(1, 9), number(0, 3)};
                    t.people.add(name);
                    t.peopleRows.add(row);
                    break;
                }
                case "debt": {
                    must(t.debts.size() < 6, 2);
                    step();
                    int place = at;
                    int person = old(t.people);
                    for (int[] d : t.debts) {
                        if (d[0] == person) {
                            throw new Fault(3, place);
                        }
                    }
                    int amount = number(1, 99);
                    boolean yard = token.equals("yard");
                    if (yard) {
                        step();
                    }
                    t.debts.add(new int[] {person, amount, yard ? 1 : 0});
                    break;
                }
                case "tear":
                    must(!t.tearTold, 3);
                    t.tearTold = true;
                    step();
                    t.tear = number(0, 8);
                    break;
                case "law": {
                    step();
                    String law = token;
                    must(law.equals("gain") || law.equals("yield") || law.equals("way"), 1);
                    must(!t.laws.containsKey(law), 3);
                    step();
                    t.laws.put(law, either());
                    break;
                }
                default:
                    throw new Fault(1, at);
            }
        }

        String knot() throws Fault {
            must(t.knots < 64, 2);
            t.knots++;
            String sign = token;
            step();
            return sign;
        }

        Tree either() throws Fault {
            Tree left = both();
            while (token.equals("or")) {
                left = two(knot(), left, both());
            }
            return left;
        }

        Tree both() throws Fault {
            Tree left = negated();
            while (token.equals("and")) {
                left = two(knot(), left, negated());
            }
            return left;
        }

        Tree negated() throws Fault {
            if (token.equals("not")) {
                knot();
                Tree of = negated();
                return names -> of.value(names) == 0 ? 1 : 0;
            }
            Tree left = sum();
            if (token.matches("<|<=|=|<>|>=|>")) {
                left = two(knot(), left, sum());
            }
            return left;
        }

        Tree sum() throws Fault {
            Tree left = product();
            while (token.equals("+") || token.equals("-")) {
                left = two(knot(), left, product());
            }
            return left;
        }

        Tree product() throws Fault {
            Tree left = part();
            while (token.equals("*") || token.equals("/")) {
                left = two(knot(), left, part());
            }
            return left;
        }

        Tree part() throws Fault {
            if (token.equals("(")) {
                must(open < 8, 2);
                open++;
                step();
                Tree inner = either();
                must(token.equals(")"), 1);
                open--;
                step();
                return inner;
            }
            if (NAMES.contains(token)) {
                String name = knot();
                return names -> names.get(name);
            }
            must(token.matches("[0-9]+"), 1);
            must(t.knots < 64, 2);
            t.knots++;
            long value = number(0, 9999);
            return names -> value;
        }

        static Tree two(String sign, Tree left, Tree right) {
            return names -> {
                long a = left.value(names);
                long b = right.value(names);
                switch (sign) {
                    case "+":
                        return sound(java.math.BigInteger.valueOf(a).add(java.math.BigInteger.valueOf(b)));
                    case "-":
                        return sound(java.math.BigInteger.valueOf(a).subtract(java.math.BigInteger.valueOf(b)));
                    case "*":
                        return sound(java.math.BigInteger.valueOf(a).multiply(java.math.BigInteger.valueOf(b)));
                    case "/":
                        return sound(java.math.BigInteger.valueOf(a).divide(java.math.BigInteger.valueOf(b)));
                    case "<":
                        return a < b ? 1 : 0;
                    case "<=":
                        return a <= b ? 1 : 0;
                    case "=":
                        return a == b ? 1 : 0;
                    case "<>":
                        return a != b ? 1 : 0;
                    case ">=":
                        return a >= b ? 1 : 0;
                    case ">":
                        return a > b ? 1 : 0;
                    case "and":
                        return a * 0 + (a != 0 ? 1 : 0) * (b != 0 ? 1 : 0);
                    default:
                        return (a != 0 ? 1 : 0) + (b != 0 ? 1 : 0) > 0 ? 1 : 0;
                }
            };
        }

        static long sound(java.math.BigInteger n) {
            if (n.abs().compareTo(java.math.BigInteger.TEN.pow(12)) > 0) {
                throw new ArithmeticException("too large");
            }
            return n.longValue();
        }
    }

    int feed(int... five) {
        if (tape.length() + 20 > 700) {
            return NONE;
        }
        for (int n : five) {
            for (int k = 3; k >= 0; k--) {
                tape.append((char) (n >>> 8 * k & 255));
            }
        }
        return tape.length();
    }

    int text(int n) {
        if (n < 0 || n > tape.length()) {
            return -2;
        }
        String text = tape.substring(0, n);
        tape.setLength(0);
        try {
            Told t = new Parser(text).all();
            told = t;
        } catch (Fault f) {
            fault = f.kind;
            faultPlace = f.place;
            return NONE;
        }
        fault = 0;
        faultPlace = NONE;
        now = start(told);
        image = null;
        undo.clear();
        stones.clear();
        known = NONE;
        return told.lines;
    }

    int fault(int what) {
        return what == 0 ? fault : what == 1 ? faultPlace : NONE;
    }

    int named(int what, int letters) {
        List<String> ones = what == 0 ? told.regions : what == 1 ? told.people : List.of();
        for (String name : ones) {
            if (Check.letters(name) == letters) {
                return ones.indexOf(name);
            }
        }
        return NONE;
    }

    // ---- states ----

    private State start(Told t) {
        State s = new State();
        s.scale = t.regionRows.stream().mapToInt(r -> r[0]).toArray();
        s.home = t.peopleRows.stream().mapToInt(r -> r[0]).toArray();
        s.yielded = new long[s.scale.length];
        s.called = new Integer[s.home.length];
        s.tooBig = new int[s.home.length];
        s.torn = new boolean[t.joins.size()];
        tearBy(t, s, t.tear);
        return s;
    }

    private static void tearBy(Told t, State s, int tear) {
        for (int j = 0; j < s.torn.length; j++) {
            int[] row = t.joins.get(j);
            s.torn[j] = Math.abs(s.scale[row[0]] - s.scale[row[1]]) > tear;
        }
    }

    private long crowd(State s, int region) {
        return java.util.Arrays.stream(s.home).filter(h -> h == region).count();
    }

    private long tears(State s, int region) {
        long n = 0;
        for (int j = 0; j < s.torn.length; j++) {
            int[] row = told.joins.get(j);
            if (s.torn[j] && (row[0] == region || row[1] == region)) {
                n++;
            }
        }
        return n;
    }

    private Map<String, Long> names(State s, int region, long scale) {
        Map<String, Long> names = new HashMap<>();
        names.put("scale", scale);
        names.put("size", 0L);
        names.put("area", (long) told.regionRows.get(region)[1]);
        names.put("length", 0L);
        names.put("crowd", crowd(s, region));
        names.put("torn", tears(s, region));
        names.put("season", (long) s.season);
        return names;
    }

    private Map<String, Long> personNames(State s, int person, int region, long scale) {
        Map<String, Long> names = names(s, region, scale);
        names.put("size", (long) told.peopleRows.get(person)[1]);
        return names;
    }

    private Map<String, Long> wayNames(State s, int join, int from) {
        Map<String, Long> names = names(s, from, s.scale[from]);
        names.put("area", 0L);
        names.put("length", (long) told.joins.get(join)[2]);
        return names;
    }

    private Long raw(String law, Map<String, Long> names) {
        Tree tree = told.laws.get(law);
        if (tree == null) {
            return null;
        }
        try {
            return tree.value(names);
        } catch (ArithmeticException e) {
            return null;
        }
    }

    private long gain(State s, int person, int region, int scale) {
        Long v = raw("gain", personNames(s, person, region, scale));
        return v == null ? 9 - Math.abs(scale - told.peopleRows.get(person)[1]) : Math.max(-99, Math.min(99, v));
    }

    private long yieldOf(State s, int region) {
        Long v = raw("yield", names(s, region, s.scale[region]));
        return v == null ? told.regionRows.get(region)[1] * s.scale[region] / 3 : Math.max(0, Math.min(9999, v));
    }

    private int across(State s, int join, int from) {
        Long v = raw("way", wayNames(s, join, from));
        return v == null ? 1 + told.joins.get(join)[2] * s.scale[from] / 20 : (int) Math.max(1, Math.min(9, v));
    }

    private int vote(State s, int person) {
        if (s.called[person] != null) {
            return s.called[person];
        }
        int region = s.home[person];
        int scale = s.scale[region];
        if (scale + 1 <= 9 && gain(s, person, region, scale + 1) > gain(s, person, region, scale)) {
            return 1;
        }
        if (scale - 1 >= 1 && gain(s, person, region, scale - 1) > gain(s, person, region, scale)) {
            return -1;
        }
        return 0;
    }

    private int vote(State s, int region, int what, int who) {
        int sum = 0;
        for (int p = 0; p < s.home.length; p++) {
            if (s.home[p] == region) {
                int v = vote(s, p);
                if (what == 0 || what == 2 && who == p) {
                    v = 0;
                } else if (what == 4 && s.called[p] == null) {
                    v = 1;
                }
                sum += (what == 1 ? 1 : told.peopleRows.get(p)[2]) * v;
            }
        }
        return sum;
    }

    private static int moved(int scale, int vote) {
        return Math.max(1, Math.min(9, scale + Integer.signum(vote)));
    }

    private State season(State before) {
        return season(before, NONE, NONE);
    }

    private State season(State before, int what, int who) {
        State s = before.copy();
        for (int r = 0; r < s.scale.length; r++) {
            s.scale[r] = moved(before.scale[r], vote(before, r, what, who));
        }
        tearBy(told, s, what == 3 ? 8 : told.tear);
        for (int r = 0; r < s.scale.length; r++) {
            s.yielded[r] += yieldOf(s, r);
        }
        for (int p = 0; p < s.home.length; p++) {
            if (told.peopleRows.get(p)[1] > s.scale[s.home[p]]) {
                s.tooBig[p]++;
            }
        }
        s.called = new Integer[s.home.length];
        s.season++;
        return s;
    }

    private State after(int n) {
        State s = now;
        for (int k = 0; k < n; k++) {
            s = season(s);
        }
        return s;
    }

    private boolean isRegion(int r) {
        return r >= 0 && r < told.regions.size();
    }

    private boolean isPerson(int p) {
        return p >= 0 && p < told.people.size();
    }

    private static boolean in(int n, int low, int high) {
        return n >= low && n <= high;
    }

    // ---- the face ----

    long person(int p, int what) {
        if (!isPerson(p)) {
            return -1001;
        }
        switch (what) {
            case 0:
                return now.home[p];
            case 1:
            case 2:
                return told.peopleRows.get(p)[what];
            case 3:
                return vote(now, p);
            case 4:
                return now.tooBig[p];
            case 5:
                return now.called[p] != null ? 1 : 0;
            default:
                return -1002;
        }
    }

    long region(int r, int what) {
        if (!isRegion(r) || !in(what, 0, 7)) {
            return Integer.MIN_VALUE;
        }
        long[] all = {now.scale[r], told.regionRows.get(r)[1], told.regionRows.get(r)[2], crowd(now, r),
            vote(now, r, NONE, NONE), yieldOf(now, r), now.yielded[r], tears(now, r)};
        return all[what];
    }

    int join(int one, int other, int what) {
        if (!isRegion(one) || !isRegion(other) || !in(what, 0, 1)) {
            return NONE;
        }
        for (int j = 0; j < told.joins.size(); j++) {
            int[] row = told.joins.get(j);
            if (row[0] == one && row[1] == other || row[0] == other && row[1] == one) {
                return what == 0 ? row[2] : now.torn[j] ? 1 : 0;
            }
        }
        return -2;
    }

    long gain(int p, int scale) {
        return isPerson(p) && in(scale, 1, 9) ? gain(now, p, now.home[p], scale) : Integer.MIN_VALUE;
    }

    long law(int what, int which) {
        Long v = null;
        if (what == 0 && isPerson(which)) {
            v = raw("gain", personNames(now, which, now.home[which], now.scale[now.home[which]]));
        } else if (what == 1 && isRegion(which)) {
            v = raw("yield", names(now, which, now.scale[which]));
        } else if (what == 2 && in(which, 0, told.joins.size() - 1)) {
            v = raw("way", wayNames(now, which, told.joins.get(which)[0]));
        }
        return v == null ? Long.MIN_VALUE : v;
    }

    private void remember() {
        undo.add(now.copy());
        if (undo.size() > 20) {
            undo.remove(0);
        }
    }

    boolean canvass(int p, int vote) {
        if (!isPerson(p) || !in(vote, -1, 1) || now.called[p] != null && now.called[p] == vote) {
            return false;
        }
        remember();
        now.called[p] = vote;
        return true;
    }

    boolean move(int p, int r) {
        if (!isPerson(p) || !isRegion(r) || now.home[p] == r || crowd(now, r) >= told.regionRows.get(r)[2]) {
            return false;
        }
        remember();
        now.home[p] = r;
        return true;
    }

    boolean decree(int r, int scale) {
        if (!isRegion(r) || !in(scale, 1, 9) || now.scale[r] == scale) {
            return false;
        }
        remember();
        now.scale[r] = scale;
        tearBy(told, now, told.tear);
        return true;
    }

    int seasons(int n) {
        if (!in(n, 0, 99) || now.season + n > 9999) {
            return NONE;
        }
        now = after(n);
        if (n > 0) {
            undo.clear();
        }
        return now.season;
    }

    long ahead(int r, int n, int what) {
        if (!isRegion(r) || !in(n, 0, 60) || !in(what, 0, 1)) {
            return NONE;
        }
        State s = after(n);
        return what == 0 ? s.scale[r] : s.yielded[r] - now.yielded[r];
    }

    int steady(int n) {
        if (!in(n, 1, 99)) {
            return NONE;
        }
        State s = now;
        for (int k = 0; k <= n; k++) {
            State next = season(s);
            if (java.util.Arrays.equals(s.scale, next.scale)) {
                return k;
            }
            s = next;
        }
        return -2;
    }

    int decides(int p) {
        if (!isPerson(p)) {
            return NONE;
        }
        List<Integer> weights = new ArrayList<>();
        for (int o = 0; o < now.home.length; o++) {
            if (o != p && now.home[o] == now.home[p]) {
                weights.add(told.peopleRows.get(o)[2]);
            }
        }
        return decides(weights, 0, 0, told.peopleRows.get(p)[2]);
    }

    private static int decides(List<Integer> weights, int k, int sum, int own) {
        if (k == weights.size()) {
            return sum + own > 0 && !(sum - own > 0) ? 1 : 0;
        }
        return decides(weights, k + 1, sum + weights.get(k), own) + decides(weights, k + 1, sum - weights.get(k), own);
    }

    int buy(int r, boolean larger) {
        if (!isRegion(r)) {
            return NONE;
        }
        int found = -2;
        for (int size = 0; size <= 8 && found == -2; size++) {
            for (int set = 0; set < 256 && found == -2; set++) {
                if (Integer.bitCount(set) == size && set < 1 << now.home.length) {
                    State s = now.copy();
                    for (int p = 0; p < s.home.length; p++) {
                        if ((set >> p & 1) == 1) {
                            s.called[p] = larger ? 1 : -1;
                        }
                    }
                    int v = vote(s, r, NONE, NONE);
                    if (larger ? v > 0 : v < 0) {
                        found = set;
                    }
                }
            }
        }
        return found;
    }

    long best(int what) {
        if (!in(what, 0, 4)) {
            return NONE;
        }
        if (what > told.regions.size()) {
            return -2;
        }
        State s = now.copy();
        long[] best = {-1, 0, 0, 0, 0, 0};
        best(s, 0, best);
        return best[what];
    }

    /** Row: the yield, four scales, the sum of scales. */
    private void best(State s, int k, long[] best) {
        if (k < Math.min(4, s.scale.length)) {
            for (int scale = 1; scale <= 9; scale++) {
                s.scale[k] = scale;
                best(s, k + 1, best);
            }
            return;
        }
        tearBy(told, s, told.tear);
        long all = 0;
        long sum = 0;
        for (int r = 0; r < s.scale.length; r++) {
            all += yieldOf(s, r);
            sum += s.scale[r];
        }
        if (all > best[0] || all == best[0] && sum < best[5]) {
            best[0] = all;
            best[5] = sum;
            for (int r = 0; r < Math.min(4, s.scale.length); r++) {
                best[1 + r] = s.scale[r];
            }
        }
    }

    private int gaps(State s) {
        return told.joins.stream().mapToInt(j -> Math.abs(s.scale[j[0]] - s.scale[j[1]])).sum();
    }

    int gaps() {
        return gaps(now);
    }

    int mend(int what) {
        if (!in(what, 0, 1)) {
            return NONE;
        }
        int least = gaps();
        int region = -2;
        for (int r = 0; r < now.scale.length; r++) {
            for (int step : new int[] {1, -1}) {
                State s = now.copy();
                s.scale[r] += step;
                if (in(s.scale[r], 1, 9) && gaps(s) < least) {
                    least = gaps(s);
                    region = r;
                }
            }
        }
        return what == 0 ? region : least;
    }

    int way(int one, int other, int out) {
        if (!isRegion(one) || !isRegion(other) || !in(out, 0, 60)) {
            return NONE;
        }
        List<State> states = new ArrayList<>();
        states.add(now);
        for (int k = 0; k < 60; k++) {
            states.add(season(states.get(k)));
        }
        return way(states, one, other, out);
    }

    private int way(List<State> states, int one, int other, int out) {
        int regions = told.regions.size();
        boolean[][] there = new boolean[71][regions];
        there[out][one] = true;
        for (int t = out; t <= 60; t++) {
            if (there[t][other]) {
                return t;
            }
            for (int r = 0; r < regions; r++) {
                if (there[t][r]) {
                    there[t + 1][r] = true;
                    for (int j = 0; j < told.joins.size(); j++) {
                        int[] row = told.joins.get(j);
                        if (!states.get(t).torn[j] && (row[0] == r || row[1] == r)) {
                            there[t + across(states.get(t), j, r)][row[0] + row[1] - r] = true;
                        }
                    }
                }
            }
        }
        return -2;
    }

    int setOut(int one, int other) {
        if (!isRegion(one) || !isRegion(other)) {
            return NONE;
        }
        List<State> states = new ArrayList<>();
        states.add(now);
        for (int k = 0; k < 60; k++) {
            states.add(season(states.get(k)));
        }
        int first = way(states, one, other, 0);
        if (first == -2) {
            return -2;
        }
        for (int out = 20; out > 0; out--) {
            int then = way(states, one, other, out);
            if (then != -2 && then <= first) {
                return out;
            }
        }
        return 0;
    }

    int live(int p) {
        if (!isPerson(p)) {
            return NONE;
        }
        int people = now.home.length;
        long[][] gains = new long[people][told.regions.size()];
        for (int k = 0; k < people; k++) {
            for (int r = 0; r < gains[k].length; r++) {
                gains[k][r] = gain(now, k, r, now.scale[r]);
            }
        }
        long[] most = {Long.MIN_VALUE};
        int[] best = new int[people];
        live(gains, new int[people], new int[told.regions.size()], 0, 0, most, best);
        return most[0] == Long.MIN_VALUE ? -2 : best[p];
    }

    private void live(long[][] gains, int[] homes, int[] taken, int k, long sum, long[] most, int[] best) {
        if (k == homes.length) {
            if (sum > most[0]) {
                most[0] = sum;
                System.arraycopy(homes, 0, best, 0, k);
            }
            return;
        }
        for (int r = 0; r < taken.length; r++) {
            if (taken[r] < told.regionRows.get(r)[2]) {
                taken[r]++;
                homes[k] = r;
                live(gains, homes, taken, k + 1, sum + gains[k][r], most, best);
                taken[r]--;
            }
        }
    }

    int owed(int debt, int what) {
        if (!in(debt, 0, told.debts.size() - 1) || !in(what, 0, 2)) {
            return NONE;
        }
        int[] row = told.debts.get(debt);
        int region = now.home[row[0]];
        int owed = row[2] == 0 ? row[1] : row[1] * now.scale[region] / told.regionRows.get(region)[0];
        return what == 0 ? owed : what == 1 ? row[0] : row[1];
    }

    private List<Integer> allRests(int one, int other) {
        long[][] gains = new long[4][2];
        for (int v = 0; v < 4; v++) {
            State s = now.copy();
            s.called[one] = v < 2 ? 1 : -1;
            s.called[other] = v % 2 == 0 ? 1 : -1;
            int region = now.home[one];
            int scale = moved(now.scale[region], vote(s, region, NONE, NONE));
            gains[v][0] = gain(now, one, region, scale);
            gains[v][1] = gain(now, other, region, scale);
        }
        List<Integer> rests = new ArrayList<>();
        for (int v = 0; v < 4; v++) {
            int first = v / 2;
            int second = v % 2;
            if (gains[(1 - first) * 2 + second][0] <= gains[v][0] && gains[first * 2 + 1 - second][1] <= gains[v][1]) {
                rests.add(first * 10 + second);
            }
        }
        return rests;
    }

    int rests(int one, int other) {
        return bargain(one, other) ? allRests(one, other).size() : NONE;
    }

    private boolean bargain(int one, int other) {
        return isPerson(one) && isPerson(other) && one != other && now.home[one] == now.home[other];
    }

    int rest(int one, int other, int k) {
        if (!bargain(one, other) || k < 0) {
            return NONE;
        }
        List<Integer> all = allRests(one, other);
        return k < all.size() ? all.get(k) : -2;
    }

    int stone(int seasons, int r, int scale, boolean atLeast) {
        if (!in(seasons, 1, 30) || !isRegion(r) || !in(scale, 1, 9) || stones.size() == 24) {
            return NONE;
        }
        stones.add(new int[] {seasons, r, scale, atLeast ? 1 : 0});
        return stones.size() - 1;
    }

    int strike(int stone) {
        if (!in(stone, 0, stones.size() - 1) || stones.size() == 24) {
            return NONE;
        }
        stones.add(new int[] {stone});
        return stones.size() - 1;
    }

    boolean known(int n) {
        if (!in(n, -1, stones.size())) {
            return false;
        }
        known = n;
        return true;
    }

    private boolean isStruck(int k, int n) {
        for (int s = k + 1; s < n; s++) {
            int[] row = stones.get(s);
            if (row.length == 1 && row[0] == k && !isStruck(s, n)) {
                return true;
            }
        }
        return false;
    }

    int had(int r) {
        if (!isRegion(r)) {
            return NONE;
        }
        int n = known == NONE ? stones.size() : known;
        int bits = 0;
        for (int scale = 1; scale <= 9; scale++) {
            State s = start(told);
            s.scale[r] = scale;
            tearBy(told, s, told.tear);
            boolean so = true;
            for (int t = 1; t <= 30; t++) {
                s = season(s);
                for (int k = 0; k < n; k++) {
                    int[] row = stones.get(k);
                    if (row.length == 4 && row[0] == t && !isStruck(k, n) && s.scale[row[1]] >= row[2] != (row[3] == 1)) {
                        so = false;
                    }
                }
            }
            bits += so ? 1 << scale : 0;
        }
        return bits;
    }

    int chance(int seed, int n, int r, int scale) {
        if (seed < 0 || !in(n, 1, 60) || !isRegion(r) || !in(scale, 1, 9)) {
            return NONE;
        }
        long last = seed;
        int times = 0;
        for (int k = 0; k < 10; k++) {
            State s = now;
            for (int t = 0; t < n; t++) {
                s = s.copy();
                for (int p = 0; p < s.home.length; p++) {
                    if (s.called[p] == null) {
                        last = (last * 1103515245L + 12345) % (1L << 31);
                        if ((last >> 16) % 100 < 20) {
                            last = (last * 1103515245L + 12345) % (1L << 31);
                            s.called[p] = (int) ((last >> 16) % 3) - 1;
                        }
                    }
                }
                s = season(s);
            }
            times += s.scale[r] >= scale ? 1 : 0;
        }
        return times;
    }

    private static long sum(long[] row) {
        return java.util.Arrays.stream(row).sum();
    }

    private static int sum(int[] row) {
        return java.util.Arrays.stream(row).sum();
    }

    long tried(int what, int i, int n) {
        if (!in(what, 0, 4) || !in(n, 0, 60) || (what == 2 ? !isPerson(i) : i != 0)) {
            return NONE;
        }
        State s = now;
        for (int k = 0; k < n; k++) {
            s = season(s, what, i);
        }
        return sum(s.yielded) - sum(now.yielded);
    }

    int undo() {
        if (undo.isEmpty()) {
            return NONE;
        }
        now = undo.remove(undo.size() - 1);
        return undo.size();
    }

    int keep() {
        image = now.copy();
        return now.season;
    }

    int back() {
        if (image == null) {
            return NONE;
        }
        now = image.copy();
        undo.clear();
        return now.season;
    }

    long count(int what) {
        if (!in(what, 0, 13)) {
            return NONE;
        }
        int torn = 0;
        for (boolean t : now.torn) {
            torn += t ? 1 : 0;
        }
        long called = java.util.Arrays.stream(now.called).filter(c -> c != null).count();
        long[] all = {told.regions.size(), told.joins.size(), told.people.size(), told.debts.size(), told.knots,
            now.season, sum(now.scale), torn, sum(now.yielded), sum(now.tooBig), called, stones.size(),
            known == NONE ? stones.size() : known, undo.size()};
        return all[what];
    }
}
