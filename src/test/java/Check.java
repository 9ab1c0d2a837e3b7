import java.nio.charset.StandardCharsets;

/** Counts answers that are not as due, and puts texts on an object's tape. */
final class Check {
    private int asked;
    private int wrong;

    void due(String call, long want, long got) {
        asked++;
        if (want != got) {
            wrong++;
            System.out.println(call + " answered " + got + ", due is " + want);
        }
    }

    void due(String call, boolean want, boolean got) {
        due(call, want ? 1 : 0, got ? 1 : 0);
    }

    /** Ends the test: exit code 1 if an answer was wrong. */
    void end() {
        System.out.println(asked + " answers, " + wrong + " not as due");
        if (wrong != 0 || asked == 0) {
            System.exit(1);
        }
    }

    /** Feeds a text of signs 0 to 255, with blanks up to whole feeds; how many bytes the tape has then. */
    static int feed(ScaleVote vote, String text) {
        byte[] bytes = text.getBytes(StandardCharsets.ISO_8859_1);
        int fed = 0;
        for (int at = 0; at < bytes.length; at += 20) {
            int[] five = new int[5];
            for (int k = 0; k < 20; k++) {
                int one = at + k < bytes.length ? bytes[at + k] & 255 : 32;
                five[k / 4] = five[k / 4] << 8 | one;
            }
            fed = vote.feed(five[0], five[1], five[2], five[3], five[4]);
        }
        return fed;
    }

    /** Feeds a text and reads just that. */
    static int tell(ScaleVote vote, String text) {
        feed(vote, text);
        return vote.text(text.length());
    }

    static ScaleVote told(String text) {
        ScaleVote vote = new ScaleVote();
        if (tell(vote, text) < 0) {
            throw new IllegalStateException("a fault " + vote.fault(0) + " at " + vote.fault(1) + " of: " + text);
        }
        return vote;
    }

    /** The letters of a name, five bits each. */
    static int letters(String name) {
        int code = 0;
        for (int k = 0; k < 6; k++) {
            code = code << 5 | (k < name.length() ? name.charAt(k) - 'a' + 1 : 0);
        }
        return code;
    }
}
