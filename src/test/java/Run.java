import java.lang.reflect.InvocationTargetException;
import java.lang.reflect.Method;
import java.lang.reflect.Modifier;
import java.util.ArrayList;
import java.util.Arrays;
import java.util.HashMap;
import java.util.List;
import java.util.Map;
import java.util.NoSuchElementException;

/** One object and its calls by name: a wrong answer is told with the calls ahead of it, and no more than 512 are made. */
final class Run {
    /** Stand for what person() throws; no call answers them. */
    static final long NO_PERSON = Long.MIN_VALUE + 1;
    static final long NO_WHAT = Long.MIN_VALUE + 2;
    private static final int MOST_CALLS = 512;
    private static final Map<String, Method> FACE = face();

    final ScaleVote vote = new ScaleVote();
    private final Check check;
    private final StringBuilder log = new StringBuilder();
    private int calls;

    Run(Check check) {
        this.check = check;
    }

    static Run of(Check check, String text) {
        return new Run(check).tell(text);
    }

    private static Map<String, Method> face() {
        Map<String, Method> face = new HashMap<>();
        for (Method method : ScaleVote.class.getDeclaredMethods()) {
            if (Modifier.isPublic(method.getModifiers())) {
                face.put(method.getName(), method);
            }
        }
        return face;
    }

    /** Puts a text, with blanks up to whole feeds, on the tape. */
    Run feed(String text) {
        log.append(" feed '").append(text).append('\'');
        for (int at = 0; at < text.length(); at += 20) {
            Object[] five = new Object[5];
            for (int k = 0; k < 5; k++) {
                int number = 0;
                for (int sign = at + 4 * k; sign < at + 4 * k + 4; sign++) {
                    number = number << 8 | (sign < text.length() ? text.charAt(sign) & 255 : 32);
                }
                five[k] = number;
            }
            ask("feed", five);
        }
        return this;
    }

    /** Feeds a text that has no fault, and reads it. */
    Run tell(String text) {
        feed(text);
        if (ask("text", text.length()) < 0) {
            throw new IllegalStateException("fault " + vote.fault(0) + " at " + vote.fault(1) + " of: " + text);
        }
        return this;
    }

    long ask(String name, Object... given) {
        calls++;
        if (calls > MOST_CALLS) {
            throw new IllegalStateException("more than 512 calls on one object");
        }
        long answer = answer(name, given);
        if (!name.equals("feed")) {
            log.append(' ').append(name).append(Arrays.toString(given)).append('=').append(answer);
        }
        return answer;
    }

    private long answer(String name, Object[] given) {
        try {
            Object answer = FACE.get(name).invoke(vote, given);
            return answer instanceof Boolean ? ((Boolean) answer ? 1 : 0) : ((Number) answer).longValue();
        } catch (InvocationTargetException e) {
            if (name.equals("person") && e.getCause().getClass() == IndexOutOfBoundsException.class) {
                return NO_PERSON;
            }
            if (name.equals("person") && e.getCause().getClass() == NoSuchElementException.class) {
                return NO_WHAT;
            }
            throw new IllegalStateException(name + Arrays.toString(given) + " throws, behind" + log, e.getCause());
        } catch (IllegalAccessException e) {
            throw new IllegalStateException(e);
        }
    }

    Run due(long want, String name, Object... given) {
        String ahead = log.toString();
        long got = ask(name, given);
        check.due(name + Arrays.toString(given) + " behind" + (want == got ? "" : ahead), want, got);
        return this;
    }

    Run yes(String name, Object... given) {
        return due(1, name, given);
    }

    Run no(String name, Object... given) {
        return due(0, name, given);
    }

    /** All that calls can tell of the object; it is used up by it. The tape and the fault are left out if asked so. */
    List<String> all(boolean withText) {
        List<String> seen = new ArrayList<>();
        lookAround(seen);
        for (int k = 0; k < 21; k++) {
            see(seen, "undo");
            see(seen, "count", 6);
            see(seen, "count", 10);
        }
        lookShortly(seen);
        see(seen, "back");
        lookShortly(seen);
        if (withText) {
            see(seen, "fault", 0);
            see(seen, "fault", 1);
            see(seen, "feed", -1, -1, -1, -1, -1);
            for (int fed = 700; fed >= 0 && !seen.get(seen.size() - 1).startsWith("text"); fed -= 20) {
                if (ask("text", fed) != -2) {
                    seen.add("text " + fed);
                }
            }
            see(seen, "fault", 0);
            see(seen, "fault", 1);
        }
        return seen;
    }

    private void see(List<String> seen, String name, Object... given) {
        seen.add(name + Arrays.toString(given) + "=" + ask(name, given));
    }

    private void lookAround(List<String> seen) {
        for (int what = 0; what <= 13; what++) {
            see(seen, "count", what);
        }
        int regions = vote.count(0);
        for (int region = 0; region < regions; region++) {
            for (int what = 0; what <= 7; what++) {
                see(seen, "region", region, what);
            }
            see(seen, "had", region);
        }
        int people = vote.count(2);
        for (int person = 0; person < people; person++) {
            for (int what = 0; what <= 5; what++) {
                see(seen, "person", person, what);
            }
            see(seen, "law", 0, person);
        }
        for (int join = 0; join < vote.count(1); join++) {
            see(seen, "law", 2, join);
        }
        for (int debt = 0; debt < vote.count(3); debt++) {
            see(seen, "owed", debt, 0);
        }
        if (regions > 0) {
            see(seen, "stone", 1, 0, 1, true);
        }
        see(seen, "gaps");
    }

    private void lookShortly(List<String> seen) {
        for (int what = 5; what <= 13; what++) {
            see(seen, "count", what);
        }
        for (int region = 0; region < vote.count(0); region++) {
            see(seen, "region", region, 0);
            see(seen, "region", region, 3);
        }
        for (int person = 0; person < vote.count(2); person++) {
            see(seen, "person", person, 0);
        }
    }
}
