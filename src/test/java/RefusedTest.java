import java.util.ArrayList;
import java.util.List;

/**
 * Each call, given a number one below the least and one above the most that it takes, the least and the most int: what it
 * answers then, and that nothing is changed by it. In states that are empty, lack some, and are full.
 */
public final class RefusedTest {
    private static final int MIN = Integer.MIN_VALUE;
    private static final int MAX = Integer.MAX_VALUE;
    private static final int NONE = -1;
    /** Those that change something, and those that may rightly answer as if refused. */
    private static final List<String> CHANGES = List.of("text", "named", "canvass", "move", "decree", "seasons", "known", "strike",
            "rests", "rest", "fault");
    private static final Check CHECK = new Check();

    /** The states that calls are refused in. */
    private enum State { NEW, NO_LINES, NO_REGIONS, NO_PEOPLE, SOME, FULL }

    /** A parameter: the least and the most it may be, and one that is fine. */
    private record Range(int least, int most, int fine) {
    }

    /** A call, what it answers if it is refused by each of its parameters, and these. */
    private record Call(String name, long[] refused, Range[] ranges) {
    }

    public static void main(String[] args) {
        for (State state : State.values()) {
            List<String> untouched = build(state).all(true);
            for (Call call : calls(build(state))) {
                refuse(state, call, untouched);
            }
            refuseOthers(state, untouched);
            askAll(state, untouched);
            tellFaults(state);
        }
        takeEdges();
        CHECK.end();
    }

    private static Run build(State state) {
        Run run = untaped(state);
        switch (state) {
            case NO_PEOPLE:
                return run.feed("tear 3;  #");
            case SOME:
                return run.feed("tear 1;");
            case FULL:
                return run.feed(" ".repeat(699) + "#").due(NONE, "feed", 1, 2, 3, 4, 5);
            default:
                return run;
        }
    }

    /** A state without its tape. */
    private static Run untaped(State state) {
        Run run = new Run(CHECK);
        switch (state) {
            case NEW:
                return run;
            case NO_LINES:
                return run.tell("");
            case NO_REGIONS:
                run.tell(" tear 0;\nlaw gain 1 / 0;");
                run.ask("seasons", 2);
                run.ask("keep");
                return run;
            case NO_PEOPLE:
                run.tell("region p 3 9 2;region q 9 30 0;join q p 4;law way 1 / 0;");
                run.ask("decree", 0, 4);
                return run;
            case SOME:
                run.tell(Realms.SMALL);
                run.ask("seasons", 1);
                run.ask("stone", 2, 0, 5, true);
                run.ask("strike", 0);
                run.ask("canvass", 2, -1);
                run.ask("keep");
                run.ask("move", 0, 2);
                run.ask("canvass", 1, 0);
                return run;
            default:
                return full(run);
        }
    }

    /** All that a text can tell, 24 stones, an image, 20 to undo. */
    private static Run full(Run run) {
        run.tell(Realms.FULL);
        run.ask("seasons", 3);
        for (int k = 0; k < 12; k++) {
            run.ask("stone", k + 1, k % 6, 1 + k % 9, k % 3 > 0);
            run.ask("strike", k);
        }
        run.ask("known", 9);
        run.ask("canvass", 3, 0);
        run.ask("keep");
        for (int k = 0; k < 8; k++) {
            run.yes("canvass", k, k % 2);
            run.yes("decree", k % 6, 1 + (run.vote.region(k % 6, 0) + k) % 9);
            run.yes("move", k, k % 3 == 0 ? 1 : 2 - run.vote.person(k, 0) / 2 % 2 * 2);
        }
        return run.due(20, "count", 13).due(24, "count", 11).due(9, "count", 12);
    }

    private static Range range(int least, int most, int fine) {
        return new Range(least, most, fine);
    }

    private static Call call(String name, long refused, Range... ranges) {
        long[] all = new long[ranges.length];
        java.util.Arrays.fill(all, refused);
        return new Call(name, all, ranges);
    }

    private static List<Call> calls(Run run) {
        ScaleVote x = run.vote;
        Range region = range(0, x.count(0) - 1, 0);
        Range person = range(0, x.count(2) - 1, 0);
        Range scale = range(1, 9, 3);
        Range ahead = range(0, 60, 2);
        int fed = x.feed(0, 0, 0, 0, 0);
        fed = fed == NONE ? 700 : fed - 20;
        List<Call> calls = new ArrayList<>();
        calls.add(call("text", -2, range(0, fed, 0)));
        calls.add(call("fault", NONE, range(0, 1, 0)));
        calls.add(call("named", NONE, range(0, 1, 0), range(1, 0, 0)));
        calls.add(new Call("person", new long[] {Run.NO_PERSON, x.count(2) == 0 ? Run.NO_PERSON : Run.NO_WHAT},
                new Range[] {person, range(0, 5, 3)}));
        calls.add(call("region", MIN, region, range(0, 7, 5)));
        calls.add(call("join", NONE, region, region, range(0, 1, 1)));
        calls.add(call("gain", MIN, person, scale));
        calls.add(call("law", Long.MIN_VALUE, range(0, 2, 0), person));
        calls.add(call("law", Long.MIN_VALUE, range(0, 2, 1), region));
        calls.add(call("law", Long.MIN_VALUE, range(0, 2, 2), range(0, x.count(1) - 1, 0)));
        calls.add(call("canvass", 0, person, range(-1, 1, 1)));
        calls.add(call("move", 0, person, region));
        calls.add(call("decree", 0, region, scale));
        calls.add(call("seasons", NONE, range(0, 99, 1)));
        calls.add(call("ahead", NONE, region, ahead, range(0, 1, 1)));
        calls.add(call("steady", NONE, range(1, 99, 5)));
        calls.add(call("decides", NONE, person));
        calls.add(call("best", NONE, range(0, 4, 0)));
        calls.add(call("mend", NONE, range(0, 1, 0)));
        calls.add(call("way", NONE, region, region, ahead));
        calls.add(call("setOut", NONE, region, region));
        calls.add(call("live", NONE, person));
        calls.add(call("owed", NONE, range(0, x.count(3) - 1, 0), range(0, 2, 0)));
        calls.add(call("rests", NONE, person, range(0, x.count(2) - 1, 1)));
        calls.add(call("rest", NONE, person, range(0, x.count(2) - 1, 1), range(0, MAX, 0)));
        calls.add(call("strike", NONE, range(0, x.count(11) - 1, 0)));
        calls.add(call("known", 0, range(-1, x.count(11), 0)));
        calls.add(call("had", NONE, region));
        calls.add(call("chance", NONE, range(0, MAX, 7), range(1, 60, 3), region, scale));
        calls.add(call("tried", NONE, range(0, 4, 0), range(0, 0, 0), ahead));
        calls.add(call("tried", NONE, range(0, 4, 1), range(0, 0, 0), ahead));
        calls.add(call("tried", NONE, range(0, 4, 3), range(0, 0, 0), ahead));
        calls.add(call("tried", NONE, range(0, 4, 4), range(0, 0, 0), ahead));
        calls.add(call("tried", NONE, range(0, 4, 2), person, ahead));
        calls.add(call("count", NONE, range(0, 13, 0)));
        return calls;
    }

    /** Each parameter in its turn is wrong, then all of them; nothing is changed by it. */
    private static void refuse(State state, Call call, List<String> untouched) {
        Run run = build(state);
        int many = call.ranges.length;
        for (int k = 0; k < many; k++) {
            Range range = call.ranges[k];
            for (long wrong : new long[] {MIN, range.least - 1L, range.most + 1L, MAX}) {
                if (wrong >= MIN && wrong <= MAX && (wrong < range.least || wrong > range.most)) {
                    run.due(call.refused[k], call.name, given(call, k, (int) wrong));
                }
            }
        }
        Object[] least = new Object[many];
        Object[] most = new Object[many];
        for (int k = 0; k < many; k++) {
            least[k] = MIN;
            most[k] = MAX;
        }
        run.due(call.refused[0], call.name, least);
        run.due(call.refused[0], call.name, most);
        unchanged(state + " by " + call.name, untouched, run.all(true));
    }

    private static Object[] given(Call call, int wrongOne, int wrong) {
        Object[] given = new Object[call.ranges.length];
        for (int k = 0; k < given.length; k++) {
            given[k] = k == wrongOne ? wrong : call.ranges[k].fine;
        }
        return given;
    }

    private static void unchanged(String where, List<String> want, List<String> got) {
        CHECK.due(where + ": how much is seen", want.size(), got.size());
        for (int k = 0; k < Math.min(want.size(), got.size()); k++) {
            CHECK.due(where + ": due is " + want.get(k) + ", seen is " + got.get(k), true, want.get(k).equals(got.get(k)));
        }
    }

    /** Calls with a boolean, those without numbers, and those that are refused for what is so already. */
    private static void refuseOthers(State state, List<String> untouched) {
        Run run = build(state);
        int regions = run.vote.count(0);
        int people = run.vote.count(2);
        for (int side = 0; side < 2; side++) {
            boolean yes = side == 0;
            for (int wrong : new int[] {MIN, -1, regions, MAX}) {
                run.due(NONE, "buy", wrong, yes);
                run.due(NONE, "stone", 1, wrong, 1, yes);
            }
            for (int wrong : new int[] {MIN, 0, 31, MAX}) {
                run.due(NONE, "stone", wrong, 0, 1, yes);
            }
            for (int wrong : new int[] {MIN, 0, 10, MAX}) {
                run.due(NONE, "stone", 1, 0, wrong, yes);
            }
        }
        for (int region = 0; region < regions; region++) {
            run.no("decree", region, run.vote.region(region, 0));
        }
        for (int person = 0; person < people; person++) {
            run.no("move", person, run.vote.person(person, 0));
            run.due(NONE, "rests", person, person);
            run.due(NONE, "rest", person, person, 0);
            if (run.vote.person(person, 5) == 1) {
                run.no("canvass", person, run.vote.person(person, 3));
            }
        }
        if (run.vote.count(11) == 24) {
            run.due(NONE, "stone", 1, 0, 1, true);
            run.due(NONE, "strike", 0);
            run.due(NONE, "strike", 23);
        }
        if (run.vote.count(13) == 0) {
            run.due(NONE, "undo");
        }
        unchanged(state + " by what is so already", untouched, run.all(true));
        if (state == State.NEW || state == State.NO_LINES || state == State.NO_PEOPLE) {
            run = build(state);
            run.due(NONE, "back");
            unchanged(state + " by back", untouched, run.all(true));
        }
    }

    /** What is only asked changes nothing. */
    private static void askAll(State state, List<String> untouched) {
        Run run = build(state);
        int region = run.vote.count(0) - 1;
        int person = run.vote.count(2) - 1;
        run.ask("named", 0, 1 << 25);
        run.ask("region", region, 5);
        run.ask("join", 0, 1, 1);
        run.ask("gain", person, 9);
        run.ask("ahead", region, 60, 1);
        run.ask("steady", 99);
        run.ask("decides", person);
        run.ask("buy", region, true);
        run.ask("buy", region, false);
        run.ask("best", 0);
        run.ask("best", 4);
        run.ask("mend", 0);
        run.ask("way", 0, region, 5);
        run.ask("setOut", region, 0);
        run.ask("live", person);
        run.ask("rests", 0, 1);
        run.ask("rest", 0, 1, 0);
        run.ask("had", region);
        run.ask("chance", 5, 60, region, 5);
        for (int what = 0; what <= 4; what++) {
            run.ask("tried", what, 0, 60);
        }
        run.ask("person", 0, 3);
        run.ask("seasons", 0);
        unchanged(state + " by what is asked", untouched, run.all(true));
    }

    /** With a FAULT all stays but the TAPE and what fault() tells. */
    private static void tellFaults(State state) {
        List<String> untouched = untaped(state).all(false);
        String ahead = "region p 5 1 1;region q 9 1 1;tear 8;law gain 1;";
        tellFault(state, untouched, 1, 48, ahead + "#");
        tellFault(state, untouched, 1, 56, ahead + "join p\n\n");
        tellFault(state, untouched, 2, 57, ahead + "join p q 10;");
        tellFault(state, untouched, 3, 55, ahead + "region p 1 1 1;");
        tellFault(state, untouched, 4, 57, ahead + "person x x 1 1;");
        tellFault(state, untouched, 5, 55, ahead + "join q q 1;");
    }

    private static void tellFault(State state, List<String> untouched, int fault, int place, String text) {
        Run run = untaped(state).feed(text);
        run.due(NONE, "text", text.length());
        run.due(fault, "fault", 0);
        run.due(place, "fault", 1);
        run.due(-2, "text", 1);
        unchanged(state + " by fault " + fault, untouched, run.all(false));
    }

    /** The least and the most that is said are taken. */
    private static void takeEdges() {
        for (State state : new State[] {State.SOME, State.FULL}) {
            for (Call call : calls(build(state))) {
                boolean untold = state == State.SOME && call.name.equals("law");
                if (!CHANGES.contains(call.name) && !untold) {
                    take(state, call);
                }
            }
        }
    }

    private static void take(State state, Call call) {
        Run run = build(state);
        for (int k = 0; k < call.ranges.length; k++) {
            for (int edge : new int[] {call.ranges[k].least, call.ranges[k].most}) {
                // A law has no sense by another one's number, tried no other person than the first but for 2.
                boolean apart = k == 0 && (call.name.equals("law") || call.name.equals("tried"));
                if (call.ranges[k].least <= call.ranges[k].most && !apart) {
                    Object[] given = given(call, k, edge);
                    boolean taken = run.ask(call.name, given) != call.refused[k];
                    CHECK.due(state + " takes " + call.name + java.util.Arrays.toString(given), true, taken);
                }
            }
        }
    }
}
