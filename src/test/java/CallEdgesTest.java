/**
 * The boundary cases of promises 6 to 37: bounds and cuts of what a law says, what is full, empty, the first of several.
 * Calls refused for a number out of range are in RefusedTest.
 */
public final class CallEdgesTest {
    private static final int NONE = -1;
    private static final int MIN = Integer.MIN_VALUE;
    private static final int MAX = Integer.MAX_VALUE;
    private static final long ERROR = Long.MIN_VALUE;
    /** 10 to the 12. */
    private static final String MOST = "(1000*1000*1000*1000)";
    private static final Check CHECK = new Check();

    public static void main(String[] args) {
        person();
        voteAtTheEnds();
        regionYield();
        regionCrowdAndTorn();
        joins();
        gain();
        lawValues();
        lawErrors();
        lawNames();
        canvass();
        move();
        decree();
        seasons();
        seasonsUpToTheLast();
        ahead();
        steady();
        decides();
        buy();
        best();
        gapsAndMend();
        way();
        setOut();
        live();
        owed();
        rests();
        stones();
        strikesAndKnown();
        had();
        chance();
        tried();
        undo();
        image();
        count();
        CHECK.end();
    }

    private static Run told(String text) {
        return Run.of(CHECK, text);
    }

    /** Promise 6. */
    private static void person() {
        Run run = told("region p 5 1 9;region q 1 1 1;person a p 1 0;person b p 9 3;person c q 1 1;");
        run.due(1, "person", 0, 1).due(9, "person", 1, 1).due(0, "person", 0, 2).due(3, "person", 1, 2).due(1, "person", 2, 0);
        run.due(-1, "person", 0, 3).due(1, "person", 1, 3).due(0, "person", 2, 3);
        run.due(Run.NO_PERSON, "person", 3, 0).due(Run.NO_PERSON, "person", -1, 0).due(Run.NO_WHAT, "person", 2, 6);
        run.due(Run.NO_WHAT, "person", 2, -1).due(Run.NO_PERSON, "person", 3, 6).due(Run.NO_PERSON, "person", -1, -1);
        // Size like the scale isn't too big, one above it is.
        run = told("region p 5 1 9;person a p 5 1;person b p 6 1;person c p 4 1;law gain 0;");
        run.ask("seasons", 1);
        run.due(0, "person", 0, 4).due(1, "person", 1, 4).due(0, "person", 2, 4).due(1, "count", 9);
        run.yes("decree", 0, 4).due(1, "count", 9);
        run.ask("seasons", 1);
        run.due(1, "person", 0, 4).due(2, "person", 1, 4).due(0, "person", 2, 4);
        // By the scale that the vote makes.
        run = told("region p 5 1 9;person a p 5 1;");
        run.yes("canvass", 0, -1).ask("seasons", 1);
        run.due(1, "person", 0, 4);
        run = told("region p 5 1 9;person a p 6 1;");
        run.ask("seasons", 1);
        run.due(0, "person", 0, 4);
        // No people at all.
        run = told("region p 5 1 9;");
        run.due(Run.NO_PERSON, "person", 0, 0).due(Run.NO_PERSON, "person", 0, 6);
    }

    /** Beyond 9 and below 1 there is no GAIN. */
    private static void voteAtTheEnds() {
        String people = "person a p 5 1;person b q 5 1;person c r 5 1;";
        String regions = "region p 9 1 9;region q 1 1 9;region r 5 1 9;";
        told(regions + people + "law gain scale;").due(0, "person", 0, 3).due(1, "person", 1, 3).due(1, "person", 2, 3);
        told(regions + people + "law gain 0-scale;").due(-1, "person", 0, 3).due(0, "person", 1, 3).due(-1, "person", 2, 3);
        told(regions + people + "law gain 7;").due(0, "person", 0, 3).due(0, "person", 1, 3).due(0, "person", 2, 3);
        // Larger is asked first, where both are more.
        told(regions + people + "law gain (scale-5)*(scale-5);").due(1, "person", 2, 3);
        told(regions + people + "law gain (scale-5)*(scale-5)*(scale<5);").due(-1, "person", 2, 3).due(0, "person", 1, 3);
        // Two scales that are beyond the bounds gain alike.
        told(regions + people + "law gain 95+scale;").due(0, "person", 2, 3).due(1, "person", 1, 3);
        told(regions + people + "law gain 0-95-scale;").due(0, "person", 2, 3).due(0, "person", 0, 3);
        told(regions + people + "law gain 0-94-scale;").due(-1, "person", 2, 3).due(0, "person", 0, 3);
        // Where an ERROR is the usual gain stands.
        told("region p 4 1 9;person a p 5 1;law gain 1/(scale-5)*0+8;").due(1, "person", 0, 3);
        told("region p 4 1 9;person a p 5 1;law gain 1/(scale-5)*0+9;").due(0, "person", 0, 3);
        Run run = told(regions + people);
        run.yes("canvass", 0, 1).due(1, "person", 0, 3).yes("canvass", 1, -1).due(-1, "person", 1, 3).ask("seasons", 1);
        run.due(9, "region", 0, 0).due(1, "region", 1, 0);
    }

    /** Promise 7: 0 .. 9999, and the usual yield, cut. */
    private static void regionYield() {
        int[][] cases = {{1, 1, 0}, {1, 2, 0}, {1, 3, 1}, {2, 1, 0}, {2, 2, 1}, {9, 99, 297}, {7, 7, 16}, {5, 1, 1}, {4, 2, 2}};
        for (int[] one : cases) {
            told("region p " + one[0] + " " + one[1] + " 0;").due(one[2], "region", 0, 5);
        }
        String p = "region p 5 10 0;law yield ";
        told(p + "9999;").due(9999, "region", 0, 5);
        told(p + "9998+1;").due(9999, "region", 0, 5).due(9999, "law", 1, 0);
        told(p + "9999+1;").due(9999, "region", 0, 5).due(10000, "law", 1, 0);
        told(p + MOST + ";").due(9999, "region", 0, 5).due(1000000000000L, "law", 1, 0);
        told(p + MOST + "+1;").due(16, "region", 0, 5).due(ERROR, "law", 1, 0);
        told(p + "0;").due(0, "region", 0, 5);
        told(p + "0-1;").due(0, "region", 0, 5).due(-1, "law", 1, 0);
        told(p + "0-" + MOST + ";").due(0, "region", 0, 5).due(-1000000000000L, "law", 1, 0);
        told(p + "0-" + MOST + "-1;").due(16, "region", 0, 5);
        // Beyond an int and back into one by a wrap-around: 4294967296 + 5, and 2147483648.
        told(p + "4096*4096*256+5;").due(9999, "region", 0, 5).due(4294967301L, "law", 1, 0);
        told(p + "4096*4096*128;").due(9999, "region", 0, 5).due(2147483648L, "law", 1, 0);
        told(p + "0-4096*4096*256+5;").due(0, "region", 0, 5);
        told(p + "1/0;").due(16, "region", 0, 5);
        Run run = told(p + "season;");
        run.due(0, "region", 0, 5).due(0, "region", 0, 6);
        run.ask("seasons", 3);
        run.due(3, "region", 0, 5).due(3, "region", 0, 6).due(3, "count", 8);
    }

    private static void regionCrowdAndTorn() {
        Run run = told(Realms.FULL);
        int[] crowd = {2, 1, 1, 1, 1, 2};
        int[] torn = {0, 0, 0, 1, 1, 2};
        for (int region = 0; region < 6; region++) {
            run.due(crowd[region], "region", region, 3).due(torn[region], "region", region, 7);
        }
        run.due(2, "count", 7);
        // All five joins of one region are torn; none of the others' is.
        run = told("region a 9 1 0;region b 1 1 0;region c 1 1 0;region d 1 1 0;region e 1 1 0;region f 1 1 0;"
                + "join a b 1;join c a 1;join a d 1;join e a 1;join a f 1;join b c 1;law yield torn;tear 7;");
        run.due(5, "region", 0, 7).due(1, "region", 1, 7).due(5, "count", 7).due(5, "region", 0, 5).due(1, "region", 5, 5);
        run.yes("decree", 0, 8).due(0, "count", 7).due(0, "region", 0, 7);
        // A region that nobody is in, of no join.
        run = told("region p 5 1 0;person a p 1 3;region q 5 1 0;");
        run.due(0, "region", 1, 3).due(0, "region", 1, 4).due(0, "region", 1, 7).due(1, "region", 0, 3).due(-3, "region", 0, 4);
        // All eight in one, each of weight 3.
        StringBuilder eight = new StringBuilder("region p 5 1 0;");
        for (char name = 'a'; name <= 'h'; name++) {
            eight.append("person ").append(name).append(" p 9 3;");
        }
        told(eight.toString()).due(24, "region", 0, 4).due(8, "region", 0, 3);
        told(eight + "law gain 0-scale;").due(-24, "region", 0, 4);
    }

    /** Promise 8: torn by more than tear, not by as much. */
    private static void joins() {
        for (int tear = 0; tear <= 8; tear++) {
            Run run = told("region p 1 1 1;region q 1 1 1;join p q 9;tear " + tear + ";");
            for (int scale = 2; scale <= 9; scale++) {
                run.yes("decree", 1, scale).due(scale - 1 > tear ? 1 : 0, "join", 0, 1, 1)
                        .due(scale - 1 > tear ? 1 : 0, "join", 1, 0, 1);
            }
            run.yes("decree", 0, 9).due(0, "join", 0, 1, 1).due(9, "join", 0, 1, 0);
        }
        told("region p 1 1 1;region q 3 1 1;join p q 1;").due(0, "count", 7).yes("decree", 1, 4).due(1, "count", 7);
        told("region p 4 1 1;region q 1 1 1;join p q 1;tear 3;").due(0, "count", 7);
        told("tear 3;region p 4 1 1;region q 1 1 1;join p q 1;").due(0, "count", 7);
        Run run = told("region p 1 1 1;region q 3 1 1;region r 3 1 1;join p q 1;");
        run.due(-2, "join", 0, 2, 0).due(-2, "join", 2, 1, 1).due(-2, "join", 0, 0, 0).due(-2, "join", 2, 2, 1);
        run.due(NONE, "join", 0, 3, 0).due(NONE, "join", 3, 3, 0).due(NONE, "join", -1, 0, 0).due(NONE, "join", 0, 2, 2);
    }

    /** Promise 9: -99 .. 99, and the usual gain. */
    private static void gain() {
        for (int size = 1; size <= 9; size++) {
            Run run = told("region p 5 1 1;person a p " + size + " 1;");
            for (int scale = 1; scale <= 9; scale++) {
                run.due(9 - Math.abs(scale - size), "gain", 0, scale);
            }
        }
        String p = "region p 5 1 1;person a p 3 1;law gain ";
        told(p + "98+1;").due(99, "gain", 0, 1);
        told(p + "99+1;").due(99, "gain", 0, 1).due(100, "law", 0, 0);
        told(p + "0-98;").due(-98, "gain", 0, 1);
        told(p + "0-99;").due(-99, "gain", 0, 1);
        told(p + "0-100;").due(-99, "gain", 0, 1).due(-100, "law", 0, 0);
        told(p + MOST + ";").due(99, "gain", 0, 1);
        told(p + "0-" + MOST + ";").due(-99, "gain", 0, 1);
        told(p + MOST + "+1;").due(7, "gain", 0, 1).due(9, "gain", 0, 3).due(3, "gain", 0, 9);
        told(p + "0-" + MOST + "-1;").due(7, "gain", 0, 1);
        told(p + "4096*4096*256+5;").due(99, "gain", 0, 1);
        told(p + "0-4096*4096*256+5;").due(-99, "gain", 0, 1);
        // By each scale its own error.
        told(p + "90/(scale-4);").due(-30, "gain", 0, 1).due(-90, "gain", 0, 3).due(8, "gain", 0, 4).due(90, "gain", 0, 5)
                .due(18, "gain", 0, 9);
        // All else as now: torn is not by the scale that is asked for.
        Run run = told("region p 5 1 1;region q 5 1 1;join p q 1;person a p 3 1;tear 0;law gain torn*10+scale;");
        run.due(9, "gain", 0, 9).yes("decree", 1, 6).due(19, "gain", 0, 9).due(16, "gain", 0, 6);
    }

    private static long value(String law) {
        return told("region p 4 5 3;person a p 3 1;law gain " + law + ";").ask("law", 0, 0);
    }

    private static void value(long want, String law) {
        CHECK.due("value of " + law, want, value(law));
    }

    /** Promise 10. */
    private static void lawValues() {
        value(-3, "(0-7)/2");
        value(-3, "7/(0-2)");
        value(3, "(0-7)/(0-2)");
        value(3, "7/2");
        value(0, "1/2");
        value(0, "(0-1)/2");
        value(0, "1/(0-2)");
        value(0, "0/9999");
        value(2, "100/7/7");
        value(98, "100/7*7");
        value(100, "100/(7/7)");
        value(-6, "1-2-5");
        value(4, "1-(2-5)");
        value(1, "5 and 0-3");
        value(0, "5 and 0");
        value(1, "0-3 or 0");
        value(0, "not (0-3)");
        value(1, "not 0");
        value(0, "not 1+1");
        value(1, "(not 1)+1");
        value(0, "not 2=2");
        value(1, "not 1 or 1");
        value(1, "not not 0-3");
        value(1, "1 or 0 and 0");
        value(0, "(1 or 0) and 0");
        value(1, "1+1=2");
        value(2, "1+(1=1)");
        value(1, "2*3>5");
        value(1, "0-1<0");
        value(1, MOST + ">" + MOST + "-1");
        value(1, "0-" + MOST + "<" + MOST);
        value(1, MOST + "=" + MOST);
        value(1, MOST + " and " + MOST);
    }

    /** / by 0, a value above 10 to the 12 or below 0 by more than that, wherever it comes. */
    private static void lawErrors() {
        String big = MOST;
        value(1000000000000L, big);
        value(ERROR, big + "+1");
        value(999999999999L, big + "-1");
        value(-1000000000000L, "0-" + big);
        value(ERROR, "0-" + big + "-1");
        value(ERROR, "0-1-" + big);
        value(1000000000000L, big + "*1");
        value(ERROR, big + "*2");
        value(-1000000000000L, big + "*(0-1)");
        value(ERROR, big + "*(0-2)");
        value(ERROR, "(0-" + big + ")*(0-2)");
        value(1000000000000L, "(0-" + big + ")*(0-1)");
        value(0, big + "*0");
        value(0, "0*" + big);
        value(ERROR, "1000*1000*1000*1001");
        value(999000000000L, "1000*1000*1000*999");
        // Products that a long wraps around to 0, to 1 and so on.
        String twoTo32 = "(4096*4096*256)";
        value(4294967296L, twoTo32);
        value(ERROR, twoTo32 + "*" + twoTo32);
        value(ERROR, "0*(" + twoTo32 + "*" + twoTo32 + ")");
        value(ERROR, "(" + twoTo32 + "*16)*(" + twoTo32 + "*16)");
        value(ERROR, big + "*" + big);
        value(ERROR, big + "*(0-" + big + ")");
        value(ERROR, "(" + twoTo32 + "+1)*(0-" + twoTo32 + "-1)");
        value(1, big + "/" + big);
        value(0, "1/" + big);
        value(-1000000000000L, big + "/(0-1)");
        value(ERROR, "1/0");
        value(ERROR, "0/0");
        value(ERROR, "1/(scale-4)");
        value(ERROR, "1/length");
        value(ERROR, "0*(1/0)");
        value(ERROR, "1 or 1/0");
        value(ERROR, "0 and 1/0");
        value(ERROR, "1/0 and 0");
        value(ERROR, "1/0 or 1");
        value(ERROR, "not (1/0)");
        value(ERROR, "1/0=1/0");
        value(ERROR, big + "+1>0");
        value(ERROR, big + "+1-1");
        value(ERROR, "(" + big + "+1)/2");
        value(ERROR, "(" + big + "+1)*0");
        value(1000000000000L, big + "-1+1");
    }

    private static void lawNames() {
        String text = "region p 2 11 3;region q 6 22 3;region r 2 33 3;join q p 8;join r p 5;person a p 3 1;person b p 4 1;person c q 7 1;";
        String[] names = {"scale", "size", "area", "length", "crowd", "torn", "season"};
        // Of a (in p), c (in q); of p, q, r; of the joins from q and from r.
        long[][] due = {{2, 6, 2, 6, 2, 6, 2}, {3, 7, 0, 0, 0, 0, 0}, {11, 22, 11, 22, 33, 0, 0}, {0, 0, 0, 0, 0, 8, 5},
            {2, 1, 2, 1, 0, 1, 0}, {1, 1, 1, 1, 0, 1, 0}, {0, 0, 0, 0, 0, 0, 0}};
        for (int k = 0; k < names.length; k++) {
            String name = names[k];
            Run run = told(text + "law gain " + name + ";law yield " + name + ";law way " + name + ";");
            run.due(due[k][0], "law", 0, 0).due(due[k][1], "law", 0, 2);
            run.due(due[k][2], "law", 1, 0).due(due[k][3], "law", 1, 1).due(due[k][4], "law", 1, 2);
            run.due(due[k][5], "law", 2, 0).due(due[k][6], "law", 2, 1);
            run.due(ERROR, "law", 0, 3).due(ERROR, "law", 1, 3).due(ERROR, "law", 2, 2).due(ERROR, "law", 3, 0)
                    .due(ERROR, "law", -1, 0);
            run.yes("canvass", 0, 0).yes("canvass", 1, 0).yes("canvass", 2, 0).ask("seasons", 1);
            if (name.equals("season")) {
                run.due(1, "law", 0, 0).due(1, "law", 1, 0).due(1, "law", 2, 0);
            }
        }
        told(text + "law gain 1;").due(1, "law", 0, 0).due(ERROR, "law", 1, 0).due(ERROR, "law", 2, 0);
        told(text + "law yield 1;").due(ERROR, "law", 0, 0).due(1, "law", 1, 0).due(ERROR, "law", 2, 0);
        told(text + "law way 1;").due(ERROR, "law", 0, 0).due(ERROR, "law", 1, 0).due(1, "law", 2, 0);
        told("law gain 1;law yield 1;law way 1;").due(ERROR, "law", 0, 0).due(ERROR, "law", 1, 0).due(ERROR, "law", 2, 0);
    }

    /** Promise 11. */
    private static void canvass() {
        Run run = told(Realms.SMALL);
        for (int vote = -1; vote <= 1; vote++) {
            run.yes("canvass", 0, vote).no("canvass", 0, vote).due(vote, "person", 0, 3).due(1, "person", 0, 5)
                    .due(1, "count", 10);
        }
        run.no("canvass", 0, 2).no("canvass", 0, -2).no("canvass", 3, 0).no("canvass", -1, 0).due(1, "person", 0, 3);
        run.due(3, "count", 13);
        // To vote as it would is to be canvassed, too.
        run = told(Realms.SMALL);
        run.due(0, "person", 2, 3).yes("canvass", 2, 0).due(1, "person", 2, 5).no("canvass", 2, 0);
        // In the next season alone; no season, no end of it.
        run.due(0, "seasons", 0).due(1, "person", 2, 5).due(1, "seasons", 1).due(0, "person", 2, 5).yes("canvass", 2, 0);
        // Everybody.
        run = told(Realms.FULL);
        for (int person = 0; person < 8; person++) {
            run.yes("canvass", person, 0);
        }
        run.due(8, "count", 10).due(0, "region", 0, 4).due(31, "seasons", 31).due(0, "count", 10);
        // Whoever is canvassed is so where it moves to.
        run = told(Realms.SMALL);
        run.yes("canvass", 0, 1).yes("move", 0, 2).due(2, "region", 2, 4).due(-1, "region", 0, 4);
    }

    /** Promise 12. */
    private static void move() {
        Run run = told("region p 1 1 1;region q 1 1 2;region r 1 1 0;region s 1 1 9;person a p 1 1;person b p 1 1;person c q 1 1;"
                + "person d s 1 1;");
        run.no("move", 0, 0).no("move", 0, 2).yes("move", 0, 1).no("move", 1, 1).due(2, "region", 1, 3).due(1, "region", 0, 3);
        run.no("move", 2, 0).yes("move", 1, 3).yes("move", 2, 0).no("move", 0, 0).yes("move", 0, 3).due(3, "region", 3, 3);
        run.due(0, "region", 1, 3).due(1, "region", 0, 3).due(0, "region", 2, 3);
        run.no("move", 4, 0).no("move", -1, 0).no("move", 0, 4).no("move", 0, -1).no("move", MAX, 0).no("move", 0, MIN);
        run.due(4, "count", 13);
        // More are there than it has homes, as the text may tell: there is none free.
        run = told("region p 1 1 1;region q 1 1 9;person a p 1 1;person b p 1 1;person c q 1 1;");
        run.no("move", 2, 0).yes("move", 0, 1).no("move", 2, 0).no("move", 0, 0).yes("move", 1, 1).yes("move", 2, 0);
        // Nine homes for eight.
        run = told(Realms.FULL);
        for (int person = 0; person < 8; person++) {
            CHECK.due("move to f", person < 6 ? 1 : 0, run.ask("move", person, 5));
        }
        run.due(8, "region", 5, 3).due(6, "count", 13);
    }

    /** Promise 13. */
    private static void decree() {
        Run run = told("region p 5 1 1;region q 5 1 1;join p q 1;tear 3;");
        run.no("decree", 0, 5).no("decree", 0, 0).no("decree", 0, 10).no("decree", 2, 1).no("decree", -1, 1);
        run.yes("decree", 0, 1).due(1, "count", 7).yes("decree", 0, 2).due(0, "count", 7).yes("decree", 0, 9).due(1, "count", 7);
        run.yes("decree", 1, 9).due(0, "count", 7).no("decree", 1, 9).due(18, "count", 6).due(4, "count", 13);
        // What was told stays told: decrees are undone by no text's line.
        run.tell("region p 5 1 1;").due(5, "region", 0, 0);
    }

    /** Promise 14. */
    private static void seasons() {
        Run run = told(Realms.SMALL);
        run.due(0, "seasons", 0).due(NONE, "seasons", -1).due(NONE, "seasons", 100).due(NONE, "seasons", MIN)
                .due(NONE, "seasons", MAX);
        run.due(0, "count", 5).due(0, "count", 8).due(99, "seasons", 99).due(100, "seasons", 1).due(100, "seasons", 0);
        // The vote is above 0, below 0, of 0.
        String p = "region p 5 1 9;person a p 9 2;person b p 1 ";
        Run.of(CHECK, p + "1;").due(1, "region", 0, 4).due(1, "seasons", 1).due(6, "region", 0, 0);
        Run.of(CHECK, p + "2;").due(0, "region", 0, 4).due(1, "seasons", 1).due(5, "region", 0, 0);
        Run.of(CHECK, p + "3;").due(-1, "region", 0, 4).due(1, "seasons", 1).due(4, "region", 0, 0);
        // 9 at most, 1 at least, by one step a season, whatever the vote.
        run = told("region p 8 1 9;region q 2 1 9;person a p 9 3;person b q 1 3;person c p 9 3;law gain 0;");
        for (int k = 0; k < 3; k++) {
            run.yes("canvass", 0, 1).yes("canvass", 1, -1).yes("canvass", 2, 1).due(k + 1, "seasons", 1).due(9, "region", 0, 0)
                    .due(1, "region", 1, 0);
        }
        // A season's yield is by its own scale, torn and number.
        run = told("region p 5 3 9;region q 5 3 9;join p q 1;person a p 9 1;tear 0;law gain scale;law yield torn*1000+season*100+scale;");
        run.due(1, "seasons", 1).due(1006, "region", 0, 6).due(1005, "region", 1, 6).due(2, "seasons", 1)
                .due(1006 + 1107, "region", 0, 6);
        // All vote by what is ahead of the season: p's and q's people see each other's scales of then.
        run = told("region p 1 1 9;region q 3 1 9;join p q 1;person a p 5 1;person b q 5 1;tear 1;law gain scale*(torn*2-1);");
        run.due(1, "seasons", 1).due(2, "region", 0, 0).due(4, "region", 1, 0).due(1, "count", 7);
        // Whole again by a season.
        run = told("region p 1 1 9;region q 4 1 9;join p q 1;person a p 9 1;");
        run.due(1, "count", 7).due(1, "seasons", 1).due(0, "count", 7);
    }

    /** No season is behind 9999; what is yielded till then is no more than an int holds. */
    private static void seasonsUpToTheLast() {
        Run run = told("region a 1 1 0;region b 1 1 0;region c 1 1 0;region d 1 1 0;region e 1 1 0;region f 1 1 0;"
                + "person a a 9 0;person b a 9 0;person c a 9 0;person d a 9 0;person e a 9 0;person f a 9 0;person g a 9 0;"
                + "person h a 9 0;law yield 9999;law gain season;");
        for (int k = 1; k <= 101; k++) {
            run.due(99L * k, "seasons", 99);
        }
        run.due(9999, "count", 5).due(NONE, "seasons", 1).due(NONE, "seasons", 99).due(9999, "seasons", 0).due(9999, "count", 5);
        run.due(9999L * 9999, "region", 5, 6).due(9999L * 9999 * 6, "count", 8).due(9999, "person", 7, 4)
                .due(9999L * 8, "count", 9);
        run.due(9999, "law", 0, 0).due(99, "gain", 0, 1).due(60L * 9999, "ahead", 0, 60, 1)
                .due(6L * 60 * 9999, "tried", 0, 0, 60);
        run.due(9999, "keep").due(9999, "back").due(10, "chance", 0, 60, 0, 1).due(0, "steady", 99);
        run = told("region p 1 1 1;");
        for (int k = 1; k <= 100; k++) {
            run.ask("seasons", 99);
        }
        run.due(9902, "seasons", 2).due(NONE, "seasons", 98).due(9902, "count", 5).due(9999, "seasons", 97)
                .due(NONE, "seasons", 1);
    }

    /** Promise 15. */
    private static void ahead() {
        Run run = told("region p 5 3 9;region q 5 3 9;person a p 9 1;law yield season+1;");
        run.due(5, "ahead", 0, 0, 0).due(0, "ahead", 0, 0, 1).due(6, "ahead", 0, 1, 0).due(1, "ahead", 0, 1, 1);
        run.due(9, "ahead", 0, 4, 0).due(9, "ahead", 0, 60, 0).due(60 * 61 / 2, "ahead", 1, 60, 1);
        run.due(NONE, "ahead", 0, 61, 0).due(NONE, "ahead", 0, -1, 0).due(NONE, "ahead", 0, 0, 2).due(NONE, "ahead", 2, 0, 0);
        run.due(2, "seasons", 2).due(0, "ahead", 0, 0, 1).due(3, "ahead", 0, 1, 1).due(3, "region", 0, 6);
        // Canvassed now counts in the next season alone.
        run.yes("canvass", 0, -1).due(6, "ahead", 0, 1, 0).due(7, "ahead", 0, 2, 0).due(7, "region", 0, 0).due(1, "person", 0, 5);
    }

    /** Promise 16. */
    private static void steady() {
        String swings = "region p 5 1 1;person a p 5 1;law gain scale*(1-2*(season-season/2*2))*(season<";
        told(swings + "99);").due(99, "steady", 99).due(-2, "steady", 98).due(-2, "steady", 1);
        told(swings + "100);").due(-2, "steady", 99).due(NONE, "steady", 100);
        told(swings + "1);").due(1, "steady", 1).due(1, "steady", 99);
        told(swings + "2);").due(-2, "steady", 1).due(2, "steady", 2);
        told(swings + "0);").due(0, "steady", 1).due(NONE, "steady", 0).due(NONE, "steady", -1).due(NONE, "steady", MIN);
        // A vote that can't move a scale beyond its end changes none.
        told("region p 9 1 1;person a p 9 1;law gain 0;").yes("canvass", 0, 1).due(0, "steady", 1);
        told("region p 1 1 1;person a p 9 1;law gain 0;").yes("canvass", 0, -1).due(0, "steady", 1).yes("canvass", 0, 1)
                .due(1, "steady", 1);
        told("tear 1;").due(0, "steady", 1);
        told("region p 1 1 1;").due(0, "steady", 1);
        // Of two regions the one that moves longer tells.
        told("region p 8 1 1;region q 5 1 1;person a p 9 1;person b q 9 1;").due(4, "steady", 4).due(-2, "steady", 3);
    }

    /** Promise 17. */
    private static void decides() {
        StringBuilder eight = new StringBuilder("region p 5 1 0;person a p 9 1;");
        for (char name = 'b'; name <= 'h'; name++) {
            eight.append("person ").append(name).append(" p 9 0;");
        }
        // Seven of weight 0: all 128 sets sum to 0.
        told(eight.toString()).due(128, "decides", 0).due(0, "decides", 1).due(0, "decides", 7).due(NONE, "decides", 8);
        StringBuilder ones = new StringBuilder("region p 5 1 0;");
        for (char name = 'a'; name <= 'h'; name++) {
            ones.append("person ").append(name).append(" p 9 1;");
        }
        // Of seven others of weight 1 four must vote larger: 1 - 1 isn't above 0; with three -1 + 1 isn't.
        told(ones.toString()).due(35, "decides", 0).due(35, "decides", 7);
        // Alone: above 0 by itself, if it has weight.
        told("region p 5 1 0;person a p 1 3;region q 1 1 0;person b q 1 0;").due(1, "decides", 0).due(0, "decides", 1);
        // Two of 1: with the other larger 2 against 0, with it smaller 0 against -2.
        told("region p 5 1 0;person a p 1 1;person b p 9 1;").due(1, "decides", 0).due(1, "decides", 1);
        // 3 against 2: the lesser one never decides.
        told("region p 5 1 0;person a p 1 3;person b p 9 2;").due(2, "decides", 0).due(0, "decides", 1);
        // Who is in another region is no other one.
        Run run = told("region p 5 1 9;region q 5 1 9;person a p 1 1;person b q 1 1;");
        run.due(1, "decides", 0).yes("move", 1, 0).due(1, "decides", 0).yes("canvass", 1, -1).due(1, "decides", 0);
    }

    /** Promise 18. */
    private static void buy() {
        StringBuilder ones = new StringBuilder("region q 1 1 1;region p 5 1 0;");
        for (char name = 'a'; name <= 'h'; name++) {
            ones.append("person ").append(name).append(" p 1 1;");
        }
        // All eight vote smaller: five must turn, four make 0.
        Run run = told(ones.toString()).due(0, "buy", 1, false).due(31, "buy", 1, true).due(-2, "buy", 0, true)
                .due(-2, "buy", 0, false);
        run.due(NONE, "buy", 2, true).due(NONE, "buy", -1, false).due(NONE, "buy", MIN, true).due(NONE, "buy", MAX, false);
        for (int person = 0; person < 8; person++) {
            run.yes("canvass", person, 0);
        }
        run.due(1, "buy", 1, true).due(1, "buy", 1, false);
        run.yes("canvass", 0, -1).due(0, "buy", 1, false).due(1, "buy", 1, true);
        // The eighth alone: bit 7.
        run = told("region p 5 1 0;person a p 5 0;person b p 5 0;person c p 5 0;person d p 5 0;person e p 5 0;person f p 5 0;"
                + "person g p 5 0;person h p 5 1;").due(128, "buy", 0, true).due(128, "buy", 0, false);
        // c alone makes 0; a and c 2, b and c 4: of several the least. One in place of two, though its bit is higher.
        told("region p 5 1 0;person a p 1 1;person b p 1 2;person c p 1 3;").due(5, "buy", 0, true);
        told("region p 5 1 0;person a p 1 1;person b p 1 1;person c p 5 3;").due(4, "buy", 0, true);
        // A vote of 0 is neither way.
        told("region p 5 1 0;person a p 1 1;person b p 9 1;").due(1, "buy", 0, true).due(2, "buy", 0, false);
        // Nobody there, nobody of weight.
        told("region p 5 1 0;").due(-2, "buy", 0, true).due(-2, "buy", 0, false);
        // Who votes so already needn't be canvassed; who is canvassed otherwise may be.
        run = told("region p 5 1 0;person a p 9 3;person b p 1 3;person c p 1 1;").due(2, "buy", 0, true);
        run.yes("canvass", 0, 0).due(2, "buy", 0, true).yes("canvass", 1, 0).due(1, "buy", 0, true);
    }

    /** Promise 19. */
    private static void best() {
        told("tear 0;law yield 5;").due(0, "best", 0).due(-2, "best", 1).due(-2, "best", 4).due(NONE, "best", 5)
                .due(NONE, "best", -1);
        told("region a 5 1 0;").due(3, "best", 0).due(9, "best", 1).due(-2, "best", 2).due(-2, "best", 4);
        told("region a 5 1 0;region b 5 1 0;region c 5 1 0;").due(-2, "best", 4).due(9, "best", 3);
        told("region a 5 1 0;region b 5 1 0;region c 5 1 0;region d 5 1 0;").due(9, "best", 4).due(NONE, "best", 5);
        // Each at most: six times 9999; all scales alike: so 1.
        Run run = told("region a 9 1 0;region b 9 1 0;region c 9 1 0;region d 9 1 0;region e 9 1 0;region f 9 1 0;law yield 9999+1;");
        run.due(59994, "best", 0);
        for (int what = 1; what <= 4; what++) {
            run.due(1, "best", what);
        }
        // Cut: area 1 yields 1 from 3 on, 2 from 6 on, 3 by 9.
        told("region a 1 1 0;law yield scale/5;").due(1, "best", 0).due(5, "best", 1);
        // As much by 1 and 2 as by 2 and 1: the first by regions.
        told("region a 5 1 0;region b 5 1 0;join a b 1;tear 0;law yield torn;").due(2, "best", 0).due(1, "best", 1)
                .due(2, "best", 2);
        // The least in sum goes ahead of the first by regions: 2 and 1 yield 2, as 1 and 9 do, being torn.
        told("region a 5 1 0;region b 5 2 0;join b a 1;tear 7;law yield torn+(area=1)*(scale=2)*2;").due(2, "best", 0)
                .due(2, "best", 1).due(1, "best", 2);
        // The fifth and sixth stay as they are, but are torn by these scales.
        run = told("region a 5 1 0;region b 5 1 0;region c 5 1 0;region d 5 1 0;region e 9 1 0;region f 1 1 0;join a e 1;join d f 1;"
                + "tear 7;law yield torn*10;");
        run.due(40, "best", 0).due(1, "best", 1).due(1, "best", 2).due(1, "best", 3).due(9, "best", 4).due(5, "region", 0, 0)
                .due(0, "count", 7);
        // By the season of now, the crowd of now.
        run = told("region a 5 1 9;person a a 5 1;law yield (scale=season+2)*crowd;law gain 0;");
        run.due(2, "best", 1).due(3, "seasons", 3).due(5, "best", 1).due(1, "best", 0);
        // With an error by some scales the usual yield.
        told("region a 5 30 0;law yield 50/(scale-5);").due(50, "best", 0).due(5, "best", 1);
    }

    /** Promises 20 and 21. */
    private static void gapsAndMend() {
        told("").due(0, "gaps").due(-2, "mend", 0).due(0, "mend", 1).due(NONE, "mend", 2).due(NONE, "mend", -1);
        told("region a 1 1 0;region b 9 1 0;").due(0, "gaps").due(-2, "mend", 0).due(0, "mend", 1);
        String nine = "join a d 1;join a e 1;join a f 1;join b d 1;join b e 1;join b f 1;join c d 1;join c e 1;join f c 1;";
        Run run = told("region a 1 1 0;region b 1 1 0;region c 1 1 0;region d 9 1 0;region e 9 1 0;region f 9 1 0;" + nine);
        run.due(72, "gaps").due(0, "mend", 0).due(69, "mend", 1);
        // Of several the first by regions; by one less, too.
        told("region a 9 1 0;region b 1 1 0;join a b 1;").due(8, "gaps").due(0, "mend", 0).due(7, "mend", 1);
        told("region a 5 1 0;region b 1 1 0;region c 9 1 0;join a b 1;join a c 1;").due(8, "gaps").due(1, "mend", 0)
                .due(7, "mend", 1);
        told("region a 4 1 0;region b 5 1 0;join b a 1;").due(1, "gaps").due(0, "mend", 0).due(0, "mend", 1);
        // One step makes it more, or as much: none.
        told("region a 5 1 0;region b 5 1 0;join a b 1;").due(0, "gaps").due(-2, "mend", 0).due(0, "mend", 1);
        run = told("region a 1 1 0;region b 2 1 0;region c 3 1 0;join a b 1;join b c 1;join c a 1;");
        run.due(4, "gaps").due(0, "mend", 0).due(2, "mend", 1).yes("decree", 0, 2).due(2, "gaps").due(2, "mend", 0)
                .due(0, "mend", 1);
        // A later one that makes it less than the first does.
        told("region a 1 1 0;region b 5 1 0;region c 1 1 0;region d 1 1 0;join a b 1;join b c 1;join d b 1;").due(12, "gaps")
                .due(1, "mend", 0).due(9, "mend", 1);
    }

    private static String chain(String law) {
        return "region a 5 1 0;region b 5 1 0;region c 5 1 0;region d 5 1 0;region e 5 1 0;region f 5 1 0;"
                + "join a b 9;join c b 9;join c d 9;join e d 9;join e f 9;" + law;
    }

    /** Promise 22. */
    private static void way() {
        Run run = told(chain("law way 9;"));
        run.due(45, "way", 0, 5, 0).due(59, "way", 0, 5, 14).due(60, "way", 0, 5, 15).due(-2, "way", 0, 5, 16)
                .due(-2, "way", 0, 5, 60);
        run.due(60, "way", 5, 0, 15).due(-2, "way", 5, 0, 16).due(60, "way", 0, 1, 51).due(-2, "way", 0, 1, 52);
        run.due(0, "way", 0, 0, 0).due(60, "way", 0, 0, 60).due(59, "way", 5, 5, 59).due(NONE, "way", 0, 0, 61)
                .due(NONE, "way", 0, 0, -1);
        run.due(NONE, "way", 6, 6, 0).due(NONE, "way", -1, -1, 0).due(NONE, "way", 0, 6, 0).due(NONE, "way", 6, 0, 0);
        // 1 .. 9.
        told(chain("law way 0-1;")).due(5, "way", 0, 5, 0);
        told(chain("law way 0;")).due(5, "way", 0, 5, 0).due(60, "way", 0, 5, 55).due(-2, "way", 0, 5, 56);
        told(chain("law way 1;")).due(5, "way", 0, 5, 0);
        told(chain("law way 2;")).due(10, "way", 0, 5, 0);
        told(chain("law way 10;")).due(45, "way", 0, 5, 0);
        told(chain("law way 4096*4096*256+1;")).due(45, "way", 0, 5, 0);
        told(chain("law way 0-4096*4096*256+9;")).due(5, "way", 0, 5, 0);
        told(chain("law way " + MOST + ";")).due(45, "way", 0, 5, 0);
        // With an error, and without: 1 and 45 by 20, cut.
        told(chain("law way 1/0;")).due(15, "way", 0, 5, 0);
        told(chain("law way " + MOST + "+1;")).due(15, "way", 0, 5, 0);
        told(chain("")).due(15, "way", 0, 5, 0);
        int[][] cases = {{1, 1, 1}, {4, 4, 1}, {9, 2, 1}, {5, 4, 2}, {4, 5, 2}, {9, 4, 2}, {8, 5, 3}, {9, 9, 5}};
        for (int[] one : cases) {
            told("region a " + one[0] + " 1 0;region b " + one[0] + " 1 0;join a b " + one[1] + ";").due(one[2], "way", 0, 1, 0);
        }
        // No way at all; torn for ever; torn by now.
        told("region a 5 1 0;region b 5 1 0;").due(-2, "way", 0, 1, 0).due(0, "way", 1, 1, 0);
        told("region a 1 1 0;region b 9 1 0;join a b 1;tear 7;").due(-2, "way", 0, 1, 0);
        told("region a 1 1 0;region b 9 1 0;join a b 1;tear 8;").due(1, "way", 0, 1, 0);
        // One crosses what tears while one is on the way: it is asked when one leaves.
        told("region a 5 1 0;region b 5 1 9;join a b 9;person x b 9 1;tear 0;").due(3, "way", 0, 1, 0).due(-2, "way", 0, 1, 1);
        // By the scale of the region one leaves: 9 * 2 by 20, 9 * 4 by 20.
        told("region a 2 1 0;region b 4 1 0;join a b 9;").due(1, "way", 0, 1, 0).due(2, "way", 1, 0, 0);
        // By the season when one leaves, and the crowd there.
        told("region a 5 1 0;region b 5 1 0;join a b 9;law way (season<>3)*8+1;").due(4, "way", 0, 1, 0).due(13, "way", 0, 1, 4);
        told("region a 5 1 0;region b 5 1 9;join a b 9;person x b 5 1;law way crowd*5;").due(1, "way", 0, 1, 0)
                .due(5, "way", 1, 0, 0);
        // Sooner by a longer way round.
        told("region a 5 1 0;region b 5 1 0;region c 5 1 0;join a c 9;join a b 1;join b c 1;law way length;")
                .due(2, "way", 0, 2, 0);
        // Behind 60 one may be there, but go nowhere.
        told("region a 5 1 0;region b 5 1 0;join a b 1;").due(60, "way", 0, 1, 59).due(-2, "way", 0, 1, 60);
    }

    /** Promise 23. */
    private static void setOut() {
        told(chain("law way 9;")).due(0, "setOut", 0, 5).due(0, "setOut", 3, 3).due(NONE, "setOut", 6, 0)
                .due(NONE, "setOut", 0, 6)
                .due(NONE, "setOut", -1, 0).due(NONE, "setOut", MIN, MAX);
        told("region a 5 1 0;region b 5 1 0;").due(-2, "setOut", 0, 1).due(0, "setOut", 0, 0);
        // It opens behind 19, 20, 21 seasons: 20 at most.
        String opens = "region a 5 1 0;region b 5 1 0;join a b 1;law way (season<";
        told(opens + "1)*9;").due(2, "way", 0, 1, 0).due(1, "setOut", 0, 1);
        for (int open = 2; open <= 8; open++) {
            told(opens + open + ")*9;").due(open + 1, "way", 0, 1, 0).due(open, "setOut", 0, 1);
        }
        // 8 and 1 are as much as 9 at once.
        told(opens + "8)*9;").due(9, "way", 0, 1, 0).due(8, "setOut", 0, 1);
        told(opens + "9)*9;").due(9, "way", 0, 1, 0).due(0, "setOut", 0, 1);
        // Torn till people make it whole: p is 1, wanted larger from a season on.
        for (int from = 15; from <= 18; from++) {
            Run run = told("region p 1 1 0;region q 6 1 0;join p q 1;person a p 9 1;law gain scale*(season>=" + from + ");");
            run.due(from + 4, "way", 0, 1, 0).due(Math.min(20, from + 3), "setOut", 0, 1);
        }
        // Just in time: there by the 60th season, not by the 61st.
        told("region p 1 1 0;region q 4 1 0;join p q 1;person a p 9 1;law gain scale*(season>=58);").due(60, "way", 0, 1, 0)
                .due(20, "setOut", 0, 1);
        told("region p 1 1 0;region q 4 1 0;join p q 1;person a p 9 1;law gain scale*(season>=59);").due(-2, "way", 0, 1, 0)
                .due(-2, "setOut", 0, 1);
        // From now on, not from the text on.
        Run run = told(opens + "5)*9;");
        run.due(3, "seasons", 3).due(3, "way", 0, 1, 0).due(2, "setOut", 0, 1);
    }

    /** Promise 24. */
    private static void live() {
        told("region p 5 1 9;").due(NONE, "live", 0);
        told("region p 5 1 0;person a p 5 1;").due(-2, "live", 0).due(NONE, "live", 1).due(NONE, "live", -1);
        told("region p 5 1 1;person a p 5 1;").due(0, "live", 0);
        told("region p 5 1 1;person a p 5 1;person b p 5 1;").due(-2, "live", 0).due(-2, "live", 1);
        told("region p 5 1 1;region q 5 1 0;region r 5 1 1;person a q 5 1;person b q 5 1;").due(0, "live", 0).due(2, "live", 1);
        told("region p 5 1 1;region q 9 1 1;person a q 9 1;person b p 9 1;").due(0, "live", 0).due(1, "live", 1);
        // Eight in six regions of nine homes: each where it gains most.
        Run run = told("region a 1 1 9;region b 2 1 9;region c 3 1 9;region d 4 1 9;region e 5 1 9;region f 6 1 9;person a a 6 1;"
                + "person b a 5 1;person c a 4 1;person d a 3 1;person e a 2 1;person f a 1 1;person g a 9 1;person h f 1 1;");
        int[] want = {5, 4, 3, 2, 1, 0, 5, 0};
        for (int person = 0; person < 8; person++) {
            run.due(want[person], "live", person);
        }
        // As many homes as people, in the last region alone but one.
        run = told("region a 5 1 0;region b 5 1 0;region c 5 1 0;region d 5 1 0;region e 5 1 1;region f 1 1 7;" + Realms.EIGHT_PEOPLE);
        for (int person = 0; person < 8; person++) {
            run.due(person == 0 ? 4 : 5, "live", person);
        }
        // All in the last region, all in the first.
        String lone = "region a 5 1 0;region b 5 1 0;region c 5 1 0;region d 5 1 0;region e 5 1 0;region f 1 1 8;";
        run = told(lone + Realms.EIGHT_PEOPLE);
        for (int person = 0; person < 8; person++) {
            run.due(5, "live", person);
        }
        run = told(lone.replace("a 5 1 0", "a 5 1 8").replace("f 1 1 8", "f 1 1 0") + Realms.EIGHT_PEOPLE);
        for (int person = 0; person < 8; person++) {
            run.due(0, "live", person);
        }
        // One home too few.
        run = told("region a 5 1 0;region b 5 1 0;region c 5 1 0;region d 5 1 0;region e 5 1 1;region f 1 1 6;" + Realms.EIGHT_PEOPLE);
        run.due(-2, "live", 0).due(-2, "live", 7);
        // All gain -99 everywhere, or 99.
        for (String law : new String[] {"law gain 0-200;", "law gain 200;", "law gain 0;"}) {
            run = told("region a 1 1 1;region b 1 1 1;region c 1 1 1;region d 1 1 1;region e 1 1 2;region f 1 1 2;" + Realms.EIGHT_PEOPLE + law);
            int[] homes = {0, 1, 2, 3, 4, 4, 5, 5};
            for (int person = 0; person < 8; person++) {
                run.due(homes[person], "live", person);
            }
        }
        // One more in sum goes ahead of the first by people.
        told("region p 5 1 1;region q 5 2 1;person a p 1 1;person b p 2 1;law gain area*size;").due(0, "live", 0)
                .due(1, "live", 1);
        told("region p 5 1 1;region q 5 2 1;person a p 2 1;person b p 1 1;law gain area*size;").due(1, "live", 0)
                .due(0, "live", 1);
        // Torn and crowd as now, of the region that is asked for; by the scale of now.
        told("region p 5 1 9;region q 9 1 9;region r 8 1 9;join q p 1;person a p 1 1;law gain torn;").due(0, "live", 0);
        told("region p 5 1 9;region q 5 1 9;person a p 1 1;person b q 1 1;person c q 1 1;law gain crowd;").due(1, "live", 0);
        run = told("region p 5 1 9;region q 7 1 9;person a p 7 1;").due(1, "live", 0).yes("decree", 0, 7).due(0, "live", 0)
                .due(0, "person", 0, 0);
    }

    /** Promise 25. */
    private static void owed() {
        Run run = told("region p 1 1 9;region q 9 1 9;region r 2 1 9;person a p 1 1;person b q 1 1;person c r 1 1;debt a 99 yard;debt b 1 yard;"
                + "debt c 99;");
        run.due(99, "owed", 0, 0).due(1, "owed", 1, 0).due(99, "owed", 2, 0).due(0, "owed", 0, 1).due(2, "owed", 2, 1);
        run.yes("decree", 0, 9).due(891, "owed", 0, 0).due(99, "owed", 0, 2).yes("decree", 1, 8).due(0, "owed", 1, 0)
                .due(1, "owed", 1, 2);
        run.yes("decree", 2, 9).due(99, "owed", 2, 0);
        // By the region that one is in now: 99 by 9 by 2.
        run.yes("move", 0, 2).due(445, "owed", 0, 0).yes("decree", 2, 1).due(49, "owed", 0, 0);
        run.due(NONE, "owed", 3, 0).due(NONE, "owed", -1, 0).due(NONE, "owed", 0, 3).due(NONE, "owed", 0, -1)
                .due(NONE, "owed", MIN, MIN);
        told("region p 1 1 9;person a p 1 1;").due(NONE, "owed", 0, 0).due(NONE, "owed", 0, 1).due(NONE, "owed", 0, 2);
        told(Realms.FULL).due(7, "owed", 5, 1).due(3, "owed", 5, 2).due(NONE, "owed", 6, 2);
    }

    /** Promises 26 and 27. */
    private static void rests() {
        // One wants it as it is, the other anything else: no rest.
        Run run = told("region p 5 1 9;person a p 4 1;person b p 6 1;law gain (size-5)*(scale-5)*(scale-5);");
        run.due(0, "rests", 0, 1).due(-2, "rest", 0, 1, 0).due(-2, "rest", 0, 1, MAX).due(NONE, "rest", 0, 1, -1)
                .due(NONE, "rest", 0, 1, MIN);
        // All four; the fifth isn't.
        run = told("region p 5 1 9;region q 5 1 9;person a p 5 0;person b p 5 0;person c q 5 0;");
        run.due(4, "rests", 0, 1).due(0, "rest", 0, 1, 0).due(1, "rest", 0, 1, 1).due(10, "rest", 0, 1, 2)
                .due(11, "rest", 0, 1, 3);
        run.due(-2, "rest", 0, 1, 4).due(-2, "rest", 0, 1, MAX).due(NONE, "rest", 0, 1, -1);
        run.due(NONE, "rests", 0, 0).due(NONE, "rests", 0, 2).due(NONE, "rests", 0, 3).due(NONE, "rests", 3, 3)
                .due(NONE, "rests", -1, 0);
        run.due(NONE, "rest", 2, 2, 0).due(NONE, "rest", 2, 1, 0).due(NONE, "rest", 0, 3, -1);
        run.yes("move", 2, 0).due(4, "rests", 0, 2).yes("move", 1, 1).due(NONE, "rests", 0, 1);
        // At 9 larger is no more, at 1 smaller no less.
        told("region p 9 1 9;person a p 9 3;person b p 1 1;").due(2, "rests", 0, 1).due(0, "rest", 0, 1, 0)
                .due(1, "rest", 0, 1, 1);
        told("region p 1 1 9;person a p 1 3;person b p 9 1;").due(2, "rests", 0, 1).due(10, "rest", 0, 1, 0)
                .due(11, "rest", 0, 1, 1);
        told("region p 9 1 9;person a p 9 1;person b p 9 1;").due(3, "rests", 0, 1).due(0, "rest", 0, 1, 0)
                .due(1, "rest", 0, 1, 1)
                .due(10, "rest", 0, 1, 2).due(-2, "rest", 0, 1, 3);
        // The same two the other way round: by the first one's, then the second one's.
        run = told("region p 5 1 9;person a p 9 2;person b p 1 1;");
        run.due(2, "rests", 0, 1).due(0, "rest", 0, 1, 0).due(1, "rest", 0, 1, 1);
        run.due(2, "rests", 1, 0).due(0, "rest", 1, 0, 0).due(10, "rest", 1, 0, 1);
        // Gains beyond the bounds are alike: nobody would have more.
        told("region p 5 1 9;person a p 9 1;person b p 1 1;law gain 200*scale;").due(4, "rests", 0, 1);
        // All others as they vote, canvassed or not; the two vote as is tried, canvassed or not.
        run = told("region p 5 1 9;person a p 9 1;person b p 9 1;person c p 1 3;");
        run.due(4, "rests", 0, 1).yes("canvass", 2, 0).due(1, "rests", 0, 1).due(0, "rest", 0, 1, 0);
        run.yes("canvass", 0, -1).yes("canvass", 1, -1).due(1, "rests", 0, 1).due(0, "rest", 0, 1, 0);
        told("").due(NONE, "rests", 0, 1).due(NONE, "rest", 0, 1, 0);
    }

    /** Promise 28. */
    private static void stones() {
        Run run = told(Realms.SMALL);
        run.due(NONE, "stone", 0, 0, 1, true).due(NONE, "stone", 31, 0, 1, true).due(NONE, "stone", 1, 3, 1, true)
                .due(NONE, "stone", 1, -1, 1, true);
        run.due(NONE, "stone", 1, 0, 0, false).due(NONE, "stone", 1, 0, 10, false).due(0, "count", 11);
        run.due(0, "stone", 1, 0, 1, true).due(1, "stone", 30, 2, 9, false).due(2, "stone", 1, 0, 1, true)
                .due(3, "stone", 30, 0, 9, false);
        for (int k = 4; k < 24; k++) {
            run.due(k, "stone", 1 + k, k % 3, 1, true);
        }
        run.due(NONE, "stone", 1, 0, 1, true).due(NONE, "stone", 0, 0, 1, true).due(NONE, "strike", 0).due(NONE, "strike", 23)
                .due(NONE, "strike", 24);
        run.due(24, "count", 11).due(24, "count", 12).no("known", 25).yes("known", 24).yes("known", 23).due(23, "count", 12);
        told("tear 1;").due(NONE, "stone", 1, 0, 1, true).due(NONE, "strike", 0);
    }

    /** Promises 29 and 30. */
    private static void strikesAndKnown() {
        // p is 3, 4, 5 as told; behind one season at least 6 only from 7 on: nothing is 9.
        Run run = told("region p 3 9 2;person a p 9 1;");
        run.due(NONE, "strike", 0).no("known", 1).yes("known", 0).yes("known", -1).no("known", -2).no("known", MIN)
                .no("known", MAX);
        run.due(0, "stone", 1, 0, 6, true).due(0b1111100000, "had", 0);
        run.due(NONE, "strike", 1).due(NONE, "strike", -1).due(NONE, "strike", MIN).due(NONE, "strike", MAX);
        // Each strikes the one ahead of it: the last one counts, and so every other.
        for (int k = 1; k < 24; k++) {
            run.due(k, "strike", k - 1).due(k % 2 == 1 ? 1022 : 0b1111100000, "had", 0).due(k + 1, "count", 12);
        }
        run.due(NONE, "strike", 23).due(24, "count", 11);
        for (int n = 24; n >= 0; n--) {
            run.yes("known", n).due(n == 0 || n % 2 == 0 ? 1022 : 0b1111100000, "had", 0).due(n, "count", 12);
        }
        run.no("known", 25).due(0, "count", 12).yes("known", -1).due(24, "count", 12);
        // Struck twice; one of the strikes is struck, the other stands.
        run = told("region p 3 9 2;person a p 9 1;");
        run.due(0, "stone", 1, 0, 6, true).due(1, "strike", 0).due(2, "strike", 0).due(3, "strike", 1).due(1022, "had", 0);
        run.due(4, "strike", 2).due(0b1111100000, "had", 0).due(5, "strike", 4).due(1022, "had", 0);
        // By n those to come aren't known; by all they are.
        run.yes("known", 5).due(0b1111100000, "had", 0).due(6, "stone", 1, 0, 9, true).due(0b1111100000, "had", 0)
                .due(5, "count", 12);
        run.yes("known", -1).due(0b1100000000, "had", 0).due(7, "stone", 1, 0, 9, false).due(0, "had", 0).due(8, "count", 12);
        run.no("known", 9).due(8, "count", 12).yes("known", 8).due(8, "stone", 1, 0, 1, true).due(8, "count", 12).yes("known", 9);
    }

    /** Promise 31. */
    private static void had() {
        Run run = told("region p 3 9 2;region q 9 1 1;person a p 9 1;");
        run.due(1022, "had", 0).due(1022, "had", 1).due(NONE, "had", 2).due(NONE, "had", -1).due(NONE, "had", MIN)
                .due(NONE, "had", MAX);
        // At least 1 is always so, less than 1 never; at least 9 by 8 and 9.
        run.due(0, "stone", 1, 0, 1, true).due(1022, "had", 0).due(1, "stone", 1, 0, 9, true).due(0b1100000000, "had", 0);
        run = told("region p 3 9 2;person a p 9 1;").due(0, "stone", 1, 0, 1, false).due(0, "had", 0);
        // Less than 9 behind 7 seasons: 1 alone; behind 8: none.
        told("region p 3 9 2;person a p 9 1;").due(0, "stone", 7, 0, 9, false).due(2, "had", 0).due(1, "stone", 8, 0, 9, false)
                .due(0, "had", 0);
        // Behind 30: by the season's own count, which starts with the text.
        run = told("region p 3 9 2;person a p 9 1;law gain scale*(season>=29);").due(0, "stone", 30, 0, 4, true)
                .due(0b1111111000, "had", 0);
        run.due(5, "seasons", 5).due(0b1111111000, "had", 0);
        told("region p 3 9 2;person a p 9 1;law gain scale*(season>=30);").due(0, "stone", 30, 0, 4, true)
                .due(0b1111110000, "had", 0);
        told("region p 3 9 2;person a p 9 1;law gain scale*(season>=1);").due(0, "stone", 1, 0, 4, true)
                .due(0b1111110000, "had", 0);
        // Nobody canvassed, moved, no decree: as told. The told scale is replaced, others' are as told.
        run = told("region p 3 9 2;region q 6 9 2;person a p 9 1;");
        run.yes("canvass", 0, -1).yes("decree", 0, 9).yes("decree", 1, 1).yes("move", 0, 1).due(0, "stone", 1, 0, 4, true)
                .due(0b1111111000, "had", 0);
        run.due(1, "stone", 1, 1, 6, true).due(0b1111111000, "had", 0).due(0b1111000000, "had", 1);
        run.due(2, "stone", 1, 1, 6, false).due(0, "had", 0).due(0, "had", 1);
    }

    /** Promise 32. */
    private static void chance() {
        Run run = told("region p 5 1 9;person a p 5 1;law gain 0;");
        run.due(NONE, "chance", -1, 1, 0, 1).due(NONE, "chance", MIN, 1, 0, 1).due(NONE, "chance", 0, 0, 0, 1)
                .due(NONE, "chance", 0, 61, 0, 1);
        run.due(NONE, "chance", 0, 1, 1, 1).due(NONE, "chance", 0, 1, 0, 0).due(NONE, "chance", 0, 1, 0, 10);
        run.due(10, "chance", MAX, 60, 0, 1).due(10, "chance", 0, 60, 0, 1).due(10, "chance", MAX, 1, 0, 4)
                .due(0, "chance", MAX, 1, 0, 7);
        for (int seed : new int[] {0, 1, 12345, 65535, 65536, MAX - 1, MAX}) {
            for (int n : new int[] {1, 2, 60}) {
                run.due(drawn(seed, n, 6), "chance", seed, n, 0, 6).due(drawn(seed, n, 5), "chance", seed, n, 0, 5);
            }
        }
        // Nobody there: nothing is drawn, nothing changes.
        told("region p 5 1 9;").due(10, "chance", 9, 60, 0, 5).due(0, "chance", 9, 60, 0, 6);
        told("tear 5;").due(NONE, "chance", 9, 60, 0, 5);
        // Whoever is canvassed by call isn't so by numbers in the next season: 60 seasons draw 59 times.
        run.yes("canvass", 0, 1).due(10, "chance", 3, 1, 0, 6).due(0, "chance", 3, 1, 0, 7).due(1, "person", 0, 3);
        // By weight 0 no vote moves anything.
        told("region p 5 1 9;person a p 5 0;law gain 0;").due(10, "chance", 77, 60, 0, 5).due(0, "chance", 77, 60, 0, 6);
    }

    /** In how many of ten times one person of weight 1, who wants nothing, brings 5 to so much. */
    private static int drawn(int seed, int n, int atLeast) {
        java.math.BigInteger last = java.math.BigInteger.valueOf(seed);
        int times = 0;
        for (int k = 0; k < 10; k++) {
            int scale = 5;
            for (int season = 0; season < n; season++) {
                last = next(last);
                if (last.shiftRight(16).intValue() % 100 < 20) {
                    last = next(last);
                    scale = Math.max(1, Math.min(9, scale + last.shiftRight(16).intValue() % 3 - 1));
                }
            }
            times += scale >= atLeast ? 1 : 0;
        }
        return times;
    }

    private static java.math.BigInteger next(java.math.BigInteger last) {
        return last.multiply(java.math.BigInteger.valueOf(1103515245)).add(java.math.BigInteger.valueOf(12345))
                .mod(java.math.BigInteger.ONE.shiftLeft(31));
    }

    /** Promise 33. */
    private static void tried() {
        Run run = told("region p 5 3 9;region q 5 3 9;join p q 1;person a p 9 1;person b p 1 3;person c q 5 0;tear 0;law yield scale*10+torn;");
        for (int what = 0; what <= 4; what++) {
            run.due(0, "tried", what, 0, 0).due(NONE, "tried", what, 0, 61).due(NONE, "tried", what, 0, -1);
            if (what != 2) {
                run.due(NONE, "tried", what, 1, 1).due(NONE, "tried", what, -1, 1).due(NONE, "tried", what, MAX, 1);
            }
        }
        run.due(NONE, "tried", 2, 3, 1).due(NONE, "tried", 2, -1, 1).due(NONE, "tried", 5, 0, 1).due(NONE, "tried", -1, 0, 1);
        // p votes -2: 4. Nobody: 5. Weight 1: 0, so 5. Without a 4, without b 6. Tear 8: 4, whole. All larger: 6 and 5, c being of 0.
        run.due(41, "ahead", 0, 1, 1).due(51, "ahead", 1, 1, 1);
        run.due(100, "tried", 0, 0, 1).due(100, "tried", 1, 0, 1).due(92, "tried", 2, 0, 1).due(112, "tried", 2, 1, 1);
        run.due(92, "tried", 2, 2, 1).due(90, "tried", 3, 0, 1).due(112, "tried", 4, 0, 1).due(100 * 60, "tried", 0, 0, 60);
        // All larger up to 9, and no further.
        run.due(60 + 70 + 80 + 90 * 57 + 50 * 60 + 2 * 60, "tried", 4, 0, 60);
        run.due(0, "count", 5).due(0, "count", 8).due(5, "region", 0, 0);
        told("").due(0, "tried", 0, 0, 60).due(NONE, "tried", 2, 0, 1).due(0, "tried", 4, 0, 0);
    }

    /** Promise 34: 20 at most, the latest first. */
    private static void undo() {
        Run run = told("region p 5 1 9;region q 5 1 9;person a p 5 1;");
        run.due(NONE, "undo").due(0, "count", 13);
        for (int k = 1; k <= 25; k++) {
            run.yes("decree", 0, k % 2 == 0 ? 5 : 1 + k % 4).due(Math.min(20, k), "count", 13);
        }
        for (int k = 25; k > 5; k--) {
            run.due(k - 6, "undo").due((k - 1) % 2 == 0 ? 5 : 1 + (k - 1) % 4, "region", 0, 0);
        }
        run.due(NONE, "undo").due(1 + 5 % 4, "region", 0, 0);
        // Exactly 20: all of them.
        run = told("region p 5 1 9;region q 5 1 9;person a p 5 1;");
        for (int k = 0; k < 20; k++) {
            run.yes("move", 0, 1 - k % 2);
        }
        for (int k = 19; k >= 0; k--) {
            run.due(k, "undo").due(k % 2, "person", 0, 0);
        }
        run.due(NONE, "undo").due(0, "person", 0, 0).due(1, "region", 0, 3).due(0, "region", 1, 3);
        // What is refused is nothing to undo.
        run.no("move", 0, 0).no("decree", 0, 5).no("canvass", 0, 2).due(0, "count", 13).due(NONE, "undo");
        // What is undone can't be undone again; what comes then goes first.
        run.yes("canvass", 0, 1).yes("canvass", 0, 0).due(1, "undo").due(1, "person", 0, 3).yes("decree", 0, 9).due(1, "undo")
                .due(0, "undo");
        run.due(0, "person", 0, 5).due(NONE, "undo");
        // Back into a region that has no home for one: it was there.
        run = told("region p 5 1 0;region q 5 1 9;person a p 5 1;").yes("move", 0, 1).no("move", 0, 0).due(0, "undo")
                .due(0, "person", 0, 0);
        // A season makes an end of it, no season none; joins are torn and whole again.
        run = told("region p 5 1 9;region q 5 1 9;join p q 1;person a p 5 1;").yes("decree", 0, 1).due(1, "count", 7)
                .due(0, "seasons", 0);
        run.due(NONE, "seasons", 100).due(0, "undo").due(0, "count", 7).yes("decree", 0, 1).due(1, "seasons", 1)
                .due(NONE, "undo").due(0, "count", 13);
        // Stones are no such calls.
        run.yes("canvass", 0, 0).due(0, "stone", 1, 0, 1, true).due(1, "strike", 0).yes("known", 1).due(0, "undo")
                .due(2, "count", 11).due(1, "count", 12);
    }

    /** Promises 35 and 36. */
    private static void image() {
        Run run = told(Realms.SMALL);
        run.due(NONE, "back").due(0, "keep").due(0, "back").due(0, "back");
        run.yes("canvass", 0, -1).due(1, "count", 13).due(0, "keep").due(1, "count", 13).due(0, "undo").due(0, "person", 0, 5);
        run.due(0, "back").due(1, "person", 0, 5).due(NONE, "undo").due(0, "count", 13);
        // Changed behind keep: the image is as it was.
        run.yes("decree", 0, 9).yes("move", 0, 2).yes("canvass", 0, 1).due(5, "seasons", 5).due(0, "back")
                .due(3, "region", 0, 0).due(0, "person", 0, 0);
        run.due(-1, "person", 0, 3).due(0, "count", 8).due(0, "count", 9).due(0, "count", 5).due(1, "count", 7)
                .due(2, "region", 0, 3);
        // Changed behind back: so, too.
        run.yes("decree", 0, 9).due(2, "seasons", 2).due(0, "back").due(3, "region", 0, 0);
        // Stones come and stay.
        run.due(0, "stone", 1, 0, 9, true).due(0, "back").due(1, "count", 11).due(0, "keep").due(1, "strike", 0).due(0, "back")
                .due(2, "count", 11);
        // One in place of the other.
        run.due(3, "seasons", 3).due(3, "keep").due(4, "seasons", 1).due(3, "back").due(3, "count", 5).due(3, "back");
        // What a new text takes along; what a fault leaves.
        run.feed("x").due(NONE, "text", 1).due(3, "back").due(0, "text", 0).due(NONE, "back").due(0, "keep").due(0, "back");
    }

    /** Promise 37. */
    private static void count() {
        Run run = told(Realms.FULL);
        long[] want = {6, 9, 8, 6, 64, 0, 24, 2, 0, 0, 0, 0, 0, 0};
        for (int what = 0; what <= 13; what++) {
            run.due(want[what], "count", what);
        }
        run.due(NONE, "count", 14).due(NONE, "count", -1).due(NONE, "count", MIN).due(NONE, "count", MAX);
        // Scales in sum, all 1, all 9.
        told("region a 1 1 0;region b 1 1 0;region c 1 1 0;region d 1 1 0;region e 1 1 0;region f 1 1 0;").due(6, "count", 6);
        told("region a 9 1 0;region b 9 1 0;region c 9 1 0;region d 9 1 0;region e 9 1 0;region f 9 1 0;").due(54, "count", 6);
        // All nine torn.
        told("region a 1 1 0;region b 1 1 0;region c 1 1 0;region d 9 1 0;region e 9 1 0;region f 9 1 0;join a d 1;join a e 1;join a f 1;"
                + "join b d 1;join b e 1;join b f 1;join c d 1;join c e 1;join f c 1;tear 7;").due(9, "count", 7);
    }
}
