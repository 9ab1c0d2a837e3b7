import java.util.ArrayList;
import java.util.List;
import java.util.NoSuchElementException;
import java.util.Random;

/** Runs of calls drawn from fixed seeds, each answer held against the Model's. */
public final class ModelTest {
    private static final int RUNS = 1500;
    private static final int CALLS = 150;
    private static final Check CHECK = new Check();

    private final Random random;
    private final ScaleVote vote = new ScaleVote();
    private final Model model = new Model();
    private final StringBuilder log = new StringBuilder();
    private int dear;

    private ModelTest(int seed) {
        random = new Random(seed);
    }

    public static void main(String[] args) {
        int runs = args.length > 0 ? Integer.parseInt(args[0]) : RUNS;
        int first = args.length > 1 ? Integer.parseInt(args[1]) : 0;
        for (int seed = first; seed < first + runs; seed++) {
            new ModelTest(seed).run(seed);
        }
        CHECK.end();
    }

    private void run(int seed) {
        log.append("seed ").append(seed).append(':');
        tell(random.nextInt(10) < 2);
        for (int k = 0; k < CALLS; k++) {
            call();
        }
    }

    private void due(String call, long want, long got) {
        if (want != got) {
            System.out.println(log);
        }
        CHECK.due(call, want, got);
    }

    private int upTo(int n) {
        return random.nextInt(n + 1);
    }

    /** Mostly one of 0 .. n, now and then something else. */
    private int about(int n) {
        if (random.nextInt(25) == 0) {
            int[] odd = {-1, -2, n + 1, n + 2, 99, 100, 61, Integer.MAX_VALUE, Integer.MIN_VALUE};
            return odd[random.nextInt(odd.length)];
        }
        return upTo(Math.max(0, n));
    }

    private int aRegion() {
        return about((int) model.count(0) - 1);
    }

    private int aPerson() {
        return about((int) model.count(2) - 1);
    }

    // ---- texts ----

    private void tell(boolean spoilt) {
        String text = text();
        for (int k = spoilt ? 1 + upTo(1) : 0; k > 0; k--) {
            text = spoil(text);
        }
        if (text.length() > 700) {
            text = text.substring(0, 700);
        }
        for (int at = 0; at < text.length(); at += 20) {
            int[] five = new int[5];
            for (int k = 0; k < 20; k++) {
                five[k / 4] = five[k / 4] << 8 | (at + k < text.length() ? text.charAt(at + k) & 255 : 32);
            }
            due("feed", model.feed(five), vote.feed(five[0], five[1], five[2], five[3], five[4]));
        }
        log.append("\n text '").append(text).append("'");
        due("text", model.text(text.length()), vote.text(text.length()));
        due("fault", model.fault(0), vote.fault(0));
        due("place", model.fault(1), vote.fault(1));
    }

    private String name(int k, boolean isRegion) {
        String[] names = {"p", "q", "ab", "abcdef", "z", "aa", "or" + "x", "scales".substring(0, 3)};
        return isRegion ? names[k % 8] : names[(k + 3) % 8];
    }

    private String text() {
        List<String> lines = new ArrayList<>();
        int regions = 1 + upTo(5);
        int people = upTo(8);
        int most = random.nextInt(4) == 0 ? 9 : 5;
        for (int k = 0; k < regions; k++) {
            lines.add("region " + name(k, true) + " " + (1 + upTo(most - 1)) + " " + (1 + upTo(98)) + " "
                    + (random.nextInt(6) == 0 ? upTo(9) : 1 + upTo(2)));
        }
        for (int one = 0; one < regions; one++) {
            for (int other = one + 1; other < regions; other++) {
                if (random.nextInt(3) == 0 || other == one + 1 && random.nextInt(5) > 0) {
                    boolean turned = random.nextBoolean();
                    lines.add("join " + name(turned ? other : one, true) + " " + name(turned ? one : other, true) + " "
                            + (1 + upTo(8)));
                }
            }
        }
        while (lines.size() > regions + 9) {
            lines.remove(lines.size() - 1);
        }
        for (int k = 0; k < people; k++) {
            lines.add("person " + name(k, false) + " " + name(upTo(regions - 1), true) + " " + (1 + upTo(8)) + " " + upTo(3));
        }
        for (int k = 0; k < Math.min(6, people); k++) {
            if (random.nextInt(3) == 0) {
                lines.add("debt " + name(k, false) + " " + (1 + upTo(98)) + (random.nextBoolean() ? " yard" : ""));
            }
        }
        if (random.nextBoolean()) {
            lines.add(upTo(lines.size()), "tear " + upTo(random.nextInt(3) == 0 ? 8 : 3));
        }
        for (String law : new String[] {"gain", "yield", "way"}) {
            if (random.nextInt(10) < 6) {
                lines.add(upTo(lines.size()), "law " + law + " " + formula(law));
            }
        }
        return String.join(random.nextInt(3) == 0 ? " ;\n" : ";", lines) + ";";
    }

    private String formula(String law) {
        if (random.nextInt(3) == 0) {
            String[] likely = law.equals("gain")
                    ? new String[] {"0-(scale-size)*(scale-size)+crowd", "scale*(torn*2-1)", "scale*(season/3-season/6*2)",
                        "(scale+season)*(size-crowd)", "10-scale*torn+area/scale", "90/(scale-size)",
                        "scale-crowd*3>torn+season", "(scale-season)*(scale-season)"}
                    : law.equals("yield")
                    ? new String[] {"area*scale*(2-torn)", "area*crowd-scale*torn", "area/(scale-3)", "(scale=season)*area",
                        "9*scale-torn*scale*scale+crowd", "torn*10+scale"}
                    : new String[] {"length+torn", "9-season", "scale/2+length/3", "length/(3-scale)", "crowd+1", "season/2-scale"};
            return likely[random.nextInt(likely.length)];
        }
        return either(2);
    }

    private String either(int depth) {
        return random.nextInt(6) > 0 ? both(depth) : both(depth) + " or " + both(depth);
    }

    private String both(int depth) {
        return random.nextInt(6) > 0 ? negated(depth) : negated(depth) + " and " + negated(depth);
    }

    private String negated(int depth) {
        if (random.nextInt(8) == 0) {
            return "not " + negated(depth);
        }
        String[] signs = {"<", "<=", "=", "<>", ">=", ">", " < ", " > "};
        return random.nextInt(4) > 0 ? sum(depth) : sum(depth) + signs[random.nextInt(8)] + sum(depth);
    }

    private String sum(int depth) {
        String s = product(depth);
        while (random.nextInt(4) == 0) {
            s += (random.nextBoolean() ? "+" : " - ") + product(depth);
        }
        return s;
    }

    private String product(int depth) {
        String s = part(depth);
        while (random.nextInt(4) == 0) {
            s += (random.nextInt(3) > 0 ? " *" : "/ ") + part(depth);
        }
        return s;
    }

    private String part(int depth) {
        int kind = random.nextInt(depth > 0 ? 12 : 9);
        if (kind < 6) {
            String[] names = {"scale", "size", "area", "length", "crowd", "torn", "season", "scale"};
            return names[random.nextInt(8)];
        }
        if (kind < 9) {
            return Integer.toString(random.nextInt(4) > 0 ? upTo(9) : upTo(9999));
        }
        return "(" + either(depth - 1) + ")";
    }

    private String spoil(String text) {
        if (text.isEmpty()) {
            return "#";
        }
        int at = upTo(text.length() - 1);
        String[] bits = {" ", ";", "(", ")", "1", "9", "0", "a", "p", "<", ">", "=", "+", "not ", " and ", "scale", "yard",
            "tear 1;", "law way 1;", "region p 1 1 1;", "join p q 1;", "join q q 1;", "person x p 1 1;", "debt p 5;",
            "A", "\t", "#", "\n", "regions", "00000000001", "99999999999", ((char) 200) + ""};
        String bit = bits[random.nextInt(bits.length)];
        switch (random.nextInt(5)) {
            case 0:
                return text.substring(0, at);
            case 1:
                return text.substring(0, at) + text.substring(at + 1);
            case 2:
                return text.substring(0, at) + bit + text.substring(at + 1);
            case 3: {
                String[] lines = text.split(";");
                int one = upTo(lines.length - 1);
                int other = upTo(lines.length - 1);
                String line = lines[one];
                lines[one] = lines[other];
                lines[other] = line;
                return String.join(";", lines) + ";" + (random.nextBoolean() ? line + ";" : "");
            }
            default:
                return text.substring(0, at) + bit + text.substring(at);
        }
    }

    // ---- calls ----

    private void call() {
        int kind = random.nextInt(46);
        if (kind < 10) {
            change(kind);
        } else if (kind < 24) {
            look(kind - 10);
        } else {
            ask(kind - 24);
        }
    }

    private void change(int kind) {
        int a;
        int b;
        switch (kind) {
            case 0:
            case 1:
                a = aPerson();
                b = about(2) - 1;
                log.append(" canvass(" + a + "," + b + ")");
                due("canvass", model.canvass(a, b) ? 1 : 0, vote.canvass(a, b) ? 1 : 0);
                break;
            case 2:
            case 3:
                a = aPerson();
                b = aRegion();
                log.append(" move(" + a + "," + b + ")");
                due("move", model.move(a, b) ? 1 : 0, vote.move(a, b) ? 1 : 0);
                break;
            case 4:
            case 5:
                a = aRegion();
                b = about(9);
                log.append(" decree(" + a + "," + b + ")");
                due("decree", model.decree(a, b) ? 1 : 0, vote.decree(a, b) ? 1 : 0);
                break;
            case 6:
                a = random.nextInt(20) == 0 ? about(99) : about(3);
                log.append(" seasons(" + a + ")");
                due("seasons", model.seasons(a), vote.seasons(a));
                break;
            case 7:
                log.append(" undo()");
                due("undo", model.undo(), vote.undo());
                break;
            case 8:
                if (random.nextInt(3) == 0) {
                    log.append(" keep()");
                    due("keep", model.keep(), vote.keep());
                } else if (random.nextInt(2) == 0) {
                    log.append(" back()");
                    due("back", model.back(), vote.back());
                }
                break;
            default:
                if (random.nextInt(12) == 0) {
                    tell(random.nextBoolean());
                } else if (random.nextInt(12) == 0) {
                    a = about(60);
                    log.append(" text(" + a + ")");
                    due("text", model.text(a), vote.text(a));
                }
                break;
        }
    }

    private static long person(ScaleVote vote, int person, int what) {
        try {
            return vote.person(person, what);
        } catch (IndexOutOfBoundsException e) {
            return -1001;
        } catch (NoSuchElementException e) {
            return -1002;
        }
    }

    private void look(int kind) {
        int a = kind % 2 == 0 ? aRegion() : aPerson();
        int b;
        int c;
        switch (kind) {
            case 0:
            case 2:
                b = about(7);
                due("region " + a + " " + b, model.region(a, b), vote.region(a, b));
                break;
            case 1:
            case 3:
                b = about(5);
                due("person " + a + " " + b, model.person(a, b), person(vote, a, b));
                break;
            case 4:
                b = aRegion();
                c = about(1);
                due("join " + a + " " + b + " " + c, model.join(a, b, c), vote.join(a, b, c));
                break;
            case 5:
                b = about(9);
                due("gain " + a + " " + b, model.gain(a, b), vote.gain(a, b));
                break;
            case 6:
            case 7:
                b = about(2);
                c = about(8);
                due("law " + b + " " + c, model.law(b, c), vote.law(b, c));
                break;
            case 8:
            case 9:
            case 10:
                b = about(13);
                due("count " + b, model.count(b), vote.count(b));
                break;
            case 11:
                b = about(5);
                c = about(2);
                due("owed " + b + " " + c, model.owed(b, c), vote.owed(b, c));
                break;
            case 12:
                b = about(1);
                c = Check.letters(name(upTo(7), true));
                due("named " + b + " " + c, model.named(b, c), vote.named(b, c));
                break;
            default:
                due("fault " + a, model.fault(a), vote.fault(a));
                break;
        }
    }

    private void ask(int kind) {
        int region = aRegion();
        int other = aRegion();
        int person = aPerson();
        int two = aPerson();
        int n = random.nextInt(5) == 0 ? about(60) : upTo(6);
        boolean yes = random.nextBoolean();
        int what;
        switch (kind) {
            case 0:
                what = about(1);
                due("ahead " + region + " " + n + " " + what, model.ahead(region, n, what), vote.ahead(region, n, what));
                break;
            case 1:
                n = about(99);
                due("steady " + n, model.steady(n), vote.steady(n));
                break;
            case 2:
                due("decides " + person, model.decides(person), vote.decides(person));
                break;
            case 3:
                due("buy " + region + " " + yes, model.buy(region, yes), vote.buy(region, yes));
                break;
            case 4:
                askBest();
                break;
            case 5:
                due("gaps", model.gaps(), vote.gaps());
                what = about(1);
                due("mend " + what, model.mend(what), vote.mend(what));
                break;
            case 6:
            case 7:
                due("way " + region + " " + other + " " + n, model.way(region, other, n), vote.way(region, other, n));
                break;
            case 8:
            case 9:
                due("setOut " + region + " " + other, model.setOut(region, other), vote.setOut(region, other));
                break;
            case 10:
                askLive(person);
                break;
            case 11:
            case 12:
                due("rests " + person + " " + two, model.rests(person, two), vote.rests(person, two));
                what = about(3);
                due("rest " + person + " " + two + " " + what, model.rest(person, two, what), vote.rest(person, two, what));
                break;
            default:
                askMore(kind, region, person, n, yes);
                break;
        }
    }

    private void askMore(int kind, int region, int person, int n, boolean yes) {
        int what = about(9);
        int behind = about(8);
        switch (kind) {
            case 13:
            case 14:
                log.append(" stone(" + behind + "," + region + "," + what + "," + yes + ")");
                due("stone", model.stone(behind, region, what, yes), vote.stone(behind, region, what, yes));
                break;
            case 15:
                log.append(" strike(" + behind + ")");
                due("strike", model.strike(behind), vote.strike(behind));
                break;
            case 16:
                behind = about((int) model.count(11) + 1) - 1;
                log.append(" known(" + behind + ")");
                due("known", model.known(behind) ? 1 : 0, vote.known(behind) ? 1 : 0);
                break;
            case 17:
            case 18:
                due("had " + region, model.had(region), vote.had(region));
                break;
            case 19: {
                int seed = random.nextInt();
                if (seed < 0 && random.nextInt(9) > 0) {
                    seed = ~seed;
                }
                due("chance " + seed + " " + n + " " + region + " " + what, model.chance(seed, n, region, what),
                        vote.chance(seed, n, region, what));
                break;
            }
            default:
                what = about(4);
                int i = what == 2 || random.nextInt(20) == 0 ? person : 0;
                due("tried " + what + " " + i + " " + n, model.tried(what, i, n), vote.tried(what, i, n));
                break;
        }
    }

    /** The model is slow here: so not in every run, and then few times. */
    private void askBest() {
        if (model.count(0) > 3 && (random.nextInt(40) != 0 || ++dear > 2)) {
            return;
        }
        for (int what = -1; what <= 5; what++) {
            if (model.count(0) < 4 || what == 0 || what == 1 + dear % 4) {
                due("best " + what, model.best(what), vote.best(what));
            }
        }
    }

    private void askLive(int person) {
        if (Math.pow(model.count(0), model.count(2)) < 50000 || random.nextInt(20) == 0 && ++dear < 3) {
            due("live " + person, model.live(person), vote.live(person));
        }
    }
}
