import java.util.ArrayList;
import java.util.List;

/** The boundary cases of promises 1 to 5: the tape, what a text is, each FAULT with its place, names. */
public final class TextEdgesTest {
    private static final int NONE = -1;
    private static final int MIN = Integer.MIN_VALUE;
    private static final int MAX = Integer.MAX_VALUE;
    private static final long ERROR = Long.MIN_VALUE;
    private static final Check CHECK = new Check();
    private static final String[] WORDS = {"region", "join", "person", "debt", "yard", "tear", "law", "gain", "yield", "way",
        "or", "and", "not", "scale", "size", "area", "length", "crowd", "torn", "season"};
    private static final String TOLD = "region p 1 1 1;region q 1 1 1;person a p 1 1;";
    /** Lines that may stand behind TOLD, token by token; each with what each token is. */
    private static final String[][] LINES = {
        {"region x 1 1 1 ;", "KWNNN;"}, {"join p q 1 ;", "KRRN;"}, {"person x p 1 1 ;", "KWRNN;"}, {"debt a 1 ;", "KPND"},
        {"debt a 1 yard ;", "KPND;"}, {"tear 1 ;", "KN;"}, {"law gain 1 ;", "KLEO"}, {"law yield 1 ;", "KLEO"},
        {"law way 1 ;", "KLEO"}, {"law gain ( 1 ) ;", "KLEECO"}, {"law gain not 1 ;", "KLEEO"}, {"law gain 1 + 1 ;", "KLEOFO"},
        {"law gain 1 < 1 ;", "KLEOFT"}, {"law gain 1 and 1 ;", "KLEOEO"}, {"law gain 1 or 1 ;", "KLEOEO"},
        {"law gain 1 * size ;", "KLEOFO"}};
    private static final String[] TOKENS = {"#", "A", "_", ".", "abcdefg", "regions", ";", "(", ")", "+", "-", "*", "/", "<", "<=", "=",
        "<>", ">=", ">", "yard", "gain", "region", "tear", "or", "and", "not", "scale", "1", "x", "p"};

    public static void main(String[] args) {
        newObject();
        tapeBytes();
        tapeFull();
        tapeCuts();
        textResets();
        textBehindText();
        moreMustCome();
        cannotStand();
        bytesAlone();
        bytesInAnE();
        signsOfTwo();
        wordsAsNames();
        tokensTogether();
        numbers();
        tooMany();
        openBrackets();
        knots();
        toldAlready();
        untold();
        itself();
        firstFault();
        faultOfTheLatest();
        names();
        CHECK.end();
    }

    private static void fault(int kind, int place, String text) {
        Run run = new Run(CHECK).feed(text);
        run.due(NONE, "text", text.length());
        run.due(kind, "fault", 0);
        run.due(place, "fault", 1);
    }

    private static Run fine(int lines, String text) {
        Run run = new Run(CHECK).feed(text);
        return run.due(lines, "text", text.length()).due(0, "fault", 0).due(NONE, "fault", 1);
    }

    private static void newObject() {
        Run run = new Run(CHECK);
        for (int what = 0; what <= 13; what++) {
            run.due(0, "count", what);
        }
        run.due(0, "fault", 0).due(NONE, "fault", 1);
        run.due(-2, "text", 1).due(-2, "text", MAX).due(-2, "text", -1).due(-2, "text", MIN);
        run.due(Run.NO_PERSON, "person", 0, 0).due(MIN, "region", 0, 0).due(NONE, "join", 0, 0, 0);
        run.due(NONE, "named", 0, 0).due(NONE, "named", 1, 0).due(MIN, "gain", 0, 1);
        for (int what = 0; what <= 2; what++) {
            run.due(ERROR, "law", what, 0);
        }
        run.no("canvass", 0, 0).no("move", 0, 0).no("decree", 0, 1);
        run.due(NONE, "ahead", 0, 0, 0).due(0, "steady", 1).due(0, "steady", 99).due(NONE, "decides", 0)
                .due(NONE, "buy", 0, true);
        run.due(0, "best", 0).due(-2, "best", 1).due(-2, "best", 4).due(NONE, "best", 5);
        run.due(0, "gaps").due(-2, "mend", 0).due(0, "mend", 1);
        run.due(NONE, "way", 0, 0, 0).due(NONE, "setOut", 0, 0).due(NONE, "live", 0).due(NONE, "owed", 0, 0);
        run.due(NONE, "rests", 0, 1).due(NONE, "rest", 0, 1, 0).due(NONE, "stone", 1, 0, 1, true).due(NONE, "strike", 0);
        run.yes("known", 0).no("known", 1).yes("known", -1).no("known", -2).due(NONE, "had", 0).due(NONE, "chance", 0, 1, 0, 1);
        run.due(0, "tried", 0, 0, 60).due(0, "tried", 1, 0, 60).due(NONE, "tried", 2, 0, 60).due(0, "tried", 3, 0, 60);
        run.due(0, "tried", 4, 0, 60).due(NONE, "undo").due(NONE, "back").due(0, "keep").due(99, "seasons", 99).due(0, "back");
        run.due(0, "seasons", 0).due(20, "feed", 0, 0, 0, 0, 0);
    }

    /** Each of the twenty bytes has a place of its own, and a byte is a byte whatever its sign. */
    private static void tapeBytes() {
        for (int place = 0; place < 20; place++) {
            for (int odd : new int[] {0, 35, 127, 128, 255}) {
                Object[] five = new Object[5];
                for (int k = 0; k < 5; k++) {
                    five[k] = 0x20202020;
                }
                int shift = 24 - place % 4 * 8;
                five[place / 4] = 0x20202020 & ~(255 << shift) | odd << shift;
                Run run = new Run(CHECK).due(20, "feed", five);
                run.due(NONE, "text", 20).due(1, "fault", 0).due(place, "fault", 1);
            }
        }
        for (int wild : new int[] {MIN, MAX, -1, 0, 1}) {
            Run run = new Run(CHECK).due(20, "feed", wild, wild, wild, wild, wild).due(40, "feed", wild, 0, 0, 0, wild);
            run.due(NONE, "text", 40).due(0, "fault", 1);
        }
        fine(1, "region abcdef 9 99 9;").due(9, "region", 0, 0).due(99, "region", 0, 1).due(9, "region", 0, 2);
    }

    private static void tapeFull() {
        String text = "tear 8;" + " ".repeat(686) + "tear 8;";
        Run run = new Run(CHECK);
        for (int k = 1; k <= 34; k++) {
            run.due(20 * k, "feed", 0x20202020, 0x20202020, 0x20202020, 0x20202020, 0x20202020);
        }
        run.due(-2, "text", 681).due(700, "feed", 0x20202020, 0x20202020, 0x20202020, 0x20202020, 0x20202020);
        run.due(NONE, "feed", 0, 0, 0, 0, 0).due(NONE, "feed", MIN, MAX, -1, 0, 1).due(-2, "text", 701).due(-2, "text", 720);
        run.due(0, "text", 700).due(-2, "text", 1);
        run.feed(text).due(NONE, "feed", -1, -1, -1, -1, -1).due(NONE, "text", 700).due(3, "fault", 0).due(693, "fault", 1);
        run.feed(text).due(1, "text", 693).due(20, "feed", 0, 0, 0, 0, 0);
        run = new Run(CHECK).feed(text);
        run.due(NONE, "feed", 0, 0, 0, 0, 0).due(0, "text", 0);
        run.due(20, "feed", 0x74656172, 0x20383b20, 0x20202020, 0x20202020, 0x20202020).due(1, "text", 20);
        // All 700 bytes are a text, and it tells as much as can be.
        String most = Realms.FULL + " ".repeat(700 - Realms.FULL.length());
        run.feed(most).due(NONE, "feed", 0, 0, 0, 0, 0).due(33, "text", 700);
        run.due(6, "count", 0).due(9, "count", 1).due(8, "count", 2).due(6, "count", 3).due(64, "count", 4);
    }

    /** The first n bytes alone are the text; what is left is gone. */
    private static void tapeCuts() {
        Run run = new Run(CHECK).feed("tear 1;tear 2;      ");
        run.due(-2, "text", 21).due(-2, "text", MIN).due(-2, "text", -1).due(0, "fault", 0);
        run.due(1, "text", 7).due(-2, "text", 1).due(0, "text", 0);
        run.feed("tear 1;tear 2;      ").due(1, "text", 7);
        run.feed("tear 1;tear 2;      ").due(NONE, "text", 8).due(1, "fault", 0).due(7, "fault", 1).due(-2, "text", 1);
        run.feed("tear 1;tear 2;      ").due(NONE, "text", 20).due(3, "fault", 0).due(7, "fault", 1);
        run.feed("tear 88;").due(NONE, "text", 6).due(1, "fault", 0).due(6, "fault", 1);
        run.feed("tear 88;").due(NONE, "text", 7).due(2, "fault", 0).due(5, "fault", 1);
        run.feed("law way 1<>2;").due(NONE, "text", 10).due(1, "fault", 0).due(10, "fault", 1);
        run.feed("region abcdefg 1 1 1;").due(NONE, "text", 13).due(1, "fault", 0).due(13, "fault", 1);
        run.feed("region abcdefg 1 1 1;").due(NONE, "text", 14).due(1, "fault", 0).due(7, "fault", 1);
        run.feed("region regions 1 1 1;").due(NONE, "text", 13).due(1, "fault", 0).due(7, "fault", 1);
        run.feed("region p 1 1 1;").due(0, "text", 0).due(0, "count", 0);
        fine(0, "");
        fine(0, " ");
        fine(0, "\n");
        fine(0, "\n \n ".repeat(100));
        fine(1, "tear 1;\n");
        fine(1, "\n\n tear\n\n1 \n;  ");
    }

    private static void textResets() {
        Run run = Run.of(CHECK, Realms.SMALL);
        run.yes("canvass", 0, -1).due(2, "seasons", 2).due(0, "stone", 1, 0, 1, true).yes("known", 0).due(2, "keep");
        run.yes("canvass", 0, 1).yes("move", 0, 2).yes("decree", 2, 9);
        run.tell("");
        for (int what = 0; what <= 13; what++) {
            run.due(0, "count", what);
        }
        run.due(NONE, "undo").due(NONE, "back").due(NONE, "had", 0).due(NONE, "strike", 0);
        run.tell(Realms.SMALL);
        run.due(16, "count", 6).due(1, "count", 7).due(0, "count", 5).due(0, "person", 0, 0).due(0, "person", 0, 5)
                .due(0, "person", 0, 4);
        run.due(0, "region", 1, 6).due(3, "region", 0, 0).due(2, "region", 0, 3).due(0, "region", 2, 3);
        run.due(0, "stone", 1, 0, 9, true).due(1, "count", 12).due(0, "had", 0).due(NONE, "undo").due(NONE, "back");
        // A text that tells less leaves nothing of the one ahead: no law, no tear.
        run.tell("region p 1 1 1;region q 4 1 1;join p q 1;person a p 1 1;tear 3;law gain 7;law yield 7;law way 7;");
        run.due(0, "count", 7).due(7, "law", 0, 0).due(7, "law", 1, 0).due(7, "law", 2, 0);
        run.tell("region p 1 1 1;region q 4 1 1;join p q 1;person a p 1 1;");
        run.due(1, "count", 7).due(0, "count", 4).due(9, "gain", 0, 1);
        for (int what = 0; what <= 2; what++) {
            run.due(ERROR, "law", what, 0);
        }
    }

    /** Nothing of any text ahead, fine or with a fault, is left: not its knots, its tear, its open '(' and waiting signs. */
    private static void textBehindText() {
        String knots = "law yield 1" + "+1".repeat(31) + ";law way 9;";
        Run run = new Run(CHECK);
        for (int k = 0; k < 6; k++) {
            run.tell("region p 1 1 1;" + knots);
            run.due(64, "count", 4).due(32, "law", 1, 0).due(ERROR, "law", 0, 0).due(1, "count", 0);
        }
        String apart = "region p 1 1 1;region q 5 1 1;join p q 1;";
        run = new Run(CHECK);
        for (int k = 0; k < 4; k++) {
            run.tell(apart + "tear 4;").due(0, "count", 7).tell("tear 8;").tell(apart).due(1, "count", 7).tell(apart)
                    .due(1, "count", 7);
        }
        for (String spoilt : new String[] {"law yield ((((1", "law yield not not 1 or 1 and 1 < 1 + 1 * #", "tear 8;law yield 1;#",
            "region p 1 1 1;region x 1 1 1;person a p 1 1;join p x 1;debt a 1;x"}) {
            run = Run.of(CHECK, "region q 1 1 1;");
            for (int k = 0; k < 3; k++) {
                run.feed(spoilt).due(NONE, "text", spoilt.length());
                run.tell(apart + "law yield scale+(1);person b q 1 1;debt b 7;").due(6, "law", 1, 1).due(1, "count", 7);
                run.due(3, "count", 4).due(2, "count", 0).due(1, "count", 1).due(1, "count", 2).due(1, "count", 3);
            }
        }
    }

    private static String[] tokens(String[] line) {
        return line[0].split(" ");
    }

    private static String joined(String[] tokens, int many, String blanks) {
        StringBuilder text = new StringBuilder();
        for (int k = 0; k < many; k++) {
            text.append(k == 0 ? "" : blanks).append(tokens[k]);
        }
        return text.toString();
    }

    /** The place is the length, blanks at the end and all. */
    private static void moreMustCome() {
        for (String[] line : LINES) {
            String[] tokens = tokens(line);
            for (int many = 1; many < tokens.length; many++) {
                for (String end : new String[] {"", " ", "\n", " \n \n"}) {
                    String text = TOLD + joined(tokens, many, " ") + end;
                    fault(1, text.length(), text);
                }
            }
            fine(4, TOLD + joined(tokens, tokens.length, " "));
            fine(4, TOLD + joined(tokens, tokens.length, "\n \n"));
        }
    }

    /** Whether a token may stand where one of this kind is due; K a line's word, W a new name, R P told ones, and so on. */
    private static boolean mayStand(char due, String token) {
        boolean part = List.of("(", "1", "scale").contains(token);
        boolean sign = List.of("+", "-", "*", "/", "or", "and").contains(token);
        boolean compares = List.of("<", "<=", "=", "<>", ">=", ">").contains(token);
        switch (due) {
            case 'K':
                return token.equals("region") || token.equals("tear");
            case 'W':
            case 'R':
            case 'P':
                return token.equals("x") || token.equals("p");
            case 'N':
                return token.equals("1");
            case 'L':
                return token.equals("gain");
            case 'D':
                return token.equals(";") || token.equals("yard");
            case 'E':
                return part || token.equals("not");
            case 'F':
                return part;
            case 'C':
                return sign || compares || token.equals(")");
            case 'O':
                return sign || compares || token.equals(";");
            case 'T':
                return sign || token.equals(";");
            default:
                return token.equals(";");
        }
    }

    private static void cannotStand() {
        for (String[] line : LINES) {
            String[] tokens = tokens(line);
            for (int k = 0; k < tokens.length; k++) {
                for (String token : TOKENS) {
                    if (!mayStand(line[1].charAt(k), token)) {
                        String ahead = TOLD + joined(tokens, k, " ") + " \n";
                        fault(1, ahead.length(), ahead + token + " 1 1 1 ;");
                        fault(1, ahead.length(), ahead + token);
                    }
                }
            }
        }
    }

    private static void bytesAlone() {
        for (int sign = 0; sign < 256; sign++) {
            String text = "" + (char) sign;
            if (sign == 10 || sign == 32) {
                fine(0, text);
            } else {
                fault(1, 0, text);
                fault(1, 7, "tear 1;" + text);
                boolean digit = sign >= '0' && sign <= '9';
                fault(1, digit ? 8 : 6, "tear\n " + (digit ? "1 " : "") + text + ";");
            }
        }
    }

    private static void bytesInAnE() {
        for (int sign = 0; sign < 256; sign++) {
            String text = "law way 1 " + (char) sign + " 1;";
            if ("+-*/<=>".indexOf(sign) >= 0) {
                fine(1, text);
            } else if (sign == ';') {
                fault(1, 12, text);
            } else if (sign == 10 || sign == 32) {
                fault(1, 12, text);
            } else {
                fault(1, 10, text);
            }
        }
    }

    /** A = (or > behind <) right behind < or > belongs to it; nothing else does. */
    private static void signsOfTwo() {
        String signs = "<=>+-*/()";
        for (char one : "<=>".toCharArray()) {
            for (char two : signs.toCharArray()) {
                String pair = "" + one + two;
                if (List.of("<=", "<>", ">=").contains(pair)) {
                    fine(1, "law way 1" + pair + "1;");
                    fault(1, 11, "law way 1" + one + " " + two + "1;");
                    for (char three : "<=>+-*/)".toCharArray()) {
                        fault(1, 11, "law way 1" + pair + three + "1;");
                    }
                } else if (two == '(') {
                    fine(1, "law way 1" + pair + "1);");
                } else {
                    fault(1, 10, "law way 1" + pair + "1;");
                }
            }
        }
        String[] all = {"<", "<=", "=", "<>", ">=", ">"};
        int[][] due = {{1, 0, 0}, {1, 1, 0}, {0, 1, 0}, {1, 0, 1}, {0, 1, 1}, {0, 0, 1}};
        for (int k = 0; k < all.length; k++) {
            for (int left = 2; left <= 4; left++) {
                Run.of(CHECK, "region p 3 1 1;law yield " + left + all[k] + "scale;").due(due[k][left - 2], "law", 1, 0);
            }
            for (String second : all) {
                fault(1, 11 + all[k].length(), "law way 1 " + all[k] + "1" + second + "1;");
            }
        }
    }

    private static void wordsAsNames() {
        for (String word : WORDS) {
            fault(1, 7, "region " + word + " 1 1 1;");
            fault(1, TOLD.length() + 5, TOLD + "join " + word + " q 1;");
            fault(1, TOLD.length() + 7, TOLD + "join p " + word + " 1;");
            fault(1, TOLD.length() + 7, TOLD + "person " + word + " p 1 1;");
            fault(1, TOLD.length() + 9, TOLD + "person x " + word + " 1 1;");
            fault(1, TOLD.length() + 5, TOLD + "debt " + word + " 1;");
            String more = word + "s";
            if (more.length() <= 6) {
                fine(1, "region " + more + " 1 1 1;");
            } else {
                fault(1, 7, "region " + more + " 1 1 1;");
            }
            if (word.length() > 2) {
                fine(1, "region " + word.substring(1) + " 1 1 1;");
            }
        }
        for (String name : new String[] {"a", "z", "az", "abc", "zzzz", "yyyyy", "zzzzzz"}) {
            fine(1, "region " + name + " 1 1 1;").due(0, "named", 0, Check.letters(name));
        }
        fault(1, 7, "region zzzzzzz 1 1 1;");
        fault(1, 7, "region " + "z".repeat(300) + " 1 1 1;");
        fault(1, 7, "region B 1 1 1;");
        fault(1, 8, "region aB 1 1 1;");
    }

    /** Words and numbers are as long as letters and digits are in a row; between others no blank is needed. */
    private static void tokensTogether() {
        fine(1, "region p1 2 3;").due(1, "region", 0, 0);
        fault(1, 0, "regionp 1 1 1;");
        fault(2, 9, "region p 123;");
        fault(1, 12, "region p 1 2;");
        fine(1, "tear1;");
        fine(3, "region p 1 1 1;person a p 1 1;debt a5yard;").due(5, "owed", 0, 0);
        fault(1, 0, "lawgain 1;");
        fine(1, "law gain1;");
        fault(1, 4, "law gainscale;");
        fine(1, "law gain(1)or(not(0))and 1;");
        fine(1, "law gain 1or 0and 1;");
        fault(1, 10, "law gain 1orscale;");
        fault(1, 9, "law gain notscale;");
        fault(1, 14, "law gain 1or2 3;");
        fine(1, "law gain 1<=scale;");
    }

    private static final String[] BEYOND = {"4294967296", "4294967297", "18446744073709551617", "2147483648", "10000000001",
        "99999999999999999999999999999999"};

    /** A number of a line: the least and the most are fine, what is beyond them is fault 2 at it. */
    private static void number(int least, int most, String ahead, String behind, int lines) {
        for (int number : new int[] {least, most}) {
            fine(lines, ahead + number + behind);
            fine(lines, ahead + "000000000000" + number + behind);
        }
        List<String> wrong = new ArrayList<>(List.of(BEYOND));
        wrong.add(Integer.toString(most + 1));
        wrong.add("0" + (most + 1));
        if (least > 0) {
            wrong.add(Integer.toString(least - 1));
            wrong.add("000");
        }
        for (String number : wrong) {
            fault(2, ahead.length(), ahead + number + behind);
            fault(2, ahead.length(), ahead + number);
        }
    }

    private static void numbers() {
        number(1, 9, "region x ", " 1 1;", 1);
        number(1, 99, "region x 1 ", " 1;", 1);
        number(0, 9, "region x 1 1 ", ";", 1);
        number(1, 9, TOLD + "join p q ", ";", 4);
        number(1, 9, TOLD + "person x p ", " 1;", 4);
        number(0, 3, TOLD + "person x p 1 ", ";", 4);
        number(1, 99, TOLD + "debt a ", ";", 4);
        number(1, 99, TOLD + "debt a ", " yard;", 4);
        number(0, 8, "tear ", ";", 1);
        number(0, 9999, "law gain ", ";", 1);
        number(0, 9999, "law yield 1 + ( ", " );", 1);
        number(0, 9999, "law way not ", ";", 1);
        fine(1, "region p 9 99 9;").due(9, "region", 0, 0).due(99, "region", 0, 1).due(9, "region", 0, 2);
        fine(1, "region p 1 1 0;").due(1, "region", 0, 0).due(1, "region", 0, 1).due(0, "region", 0, 2);
        fine(2, "region p 1 1 0;law yield 9999;").due(9999, "law", 1, 0);
        fine(2, "region p 1 1 0;law yield 0;").due(0, "law", 1, 0);
    }

    /** A seventh region and so on: at the word of the line, whatever comes behind it. */
    private static void tooMany() {
        String regions = Realms.SIX_REGIONS;
        String joins = regions + Realms.NINE_JOINS;
        String people = regions + Realms.EIGHT_PEOPLE;
        String debts = people + Realms.SIX_DEBTS;
        fine(6, regions).due(6, "count", 0);
        fine(15, joins).due(9, "count", 1);
        fine(14, people).due(8, "count", 2);
        fine(20, debts).due(6, "count", 3);
        for (String behind : new String[] {" x 1 1 1;", " a 1 1 1;", "", ";", " #", " 99999"}) {
            fault(2, regions.length() + 1, regions + " region" + behind);
        }
        for (String behind : new String[] {" e a 1;", " a b 1;", " a a 1;", " x x 1;", "", ";", " #"}) {
            fault(2, joins.length() + 2, joins + "\n join" + behind);
        }
        for (String behind : new String[] {" x a 1 1;", " a a 1 1;", " x x 1 1;", "", ";"}) {
            fault(2, people.length(), people + "person" + behind);
        }
        for (String behind : new String[] {" f 1;", " a 1;", " x 1;", "", ";"}) {
            fault(2, debts.length(), debts + "debt" + behind);
        }
        fault(1, regions.length(), regions + "regions x 1 1 1;");
        // What is full leaves the others as they are.
        fine(7, regions + "person x a 1 1;");
        fine(16, joins + "person x a 1 1;");
        fine(15, people + "join a b 1;");
    }

    private static void openBrackets() {
        for (int open = 1; open <= 8; open++) {
            fine(1, "law way " + "(".repeat(open) + "1" + ")".repeat(open) + ";");
            fault(1, 8 + open + 1 + open, "law way " + "(".repeat(open) + "1" + ")".repeat(open) + ");");
            fault(1, 8 + open + 1 + open - 1, "law way " + "(".repeat(open) + "1" + ")".repeat(open - 1) + ";");
            fault(1, 8 + open, "law way " + "(".repeat(open) + ")".repeat(open) + ";");
            fault(1, 8 + open, "law way " + "(".repeat(open) + ";");
            fault(1, 8 + open, "law way " + "(".repeat(open));
        }
        for (int open = 9; open <= 12; open++) {
            fault(2, 16, "law way " + "(".repeat(open) + "1" + ")".repeat(open) + ";");
        }
        fault(2, 16, "law way (((((((((");
        fault(2, 24, "law way " + "( ".repeat(9));
        fault(2, 36, "law way " + "not(".repeat(6) + "1+(((");
        String eight = "((((((((1))))))))";
        fine(1, "law way " + eight + "+" + eight + ";");
        fault(2, 8 + eight.length() + 1 + 8, "law way " + eight + "+(" + eight + ");");
        fine(2, "law way " + eight + ";law gain " + eight + ";");
        // Where it can't stand the ninth is fault 1.
        fault(1, 17, "law way ((((((((1(");
        fault(1, 16, "law way (((((((()");
    }

    /** 64 knots of all E are fine; the 65th is fault 2 at it, whichever it is. */
    private static void knots() {
        String ones = "law gain 1" + "+1".repeat(31) + ";law way 0";
        fine(2, ones + ";").due(64, "count", 4);
        for (String sign : new String[] {"+", "-", "*", "/", "<", "<=", "=", "<>", ">=", ">", "and", "or"}) {
            fault(2, ones.length() + 1, ones + " " + sign + " 1;");
            fault(2, ones.length() + 1, ones + " " + sign);
        }
        String waits = "law gain 1" + "+1".repeat(30) + ";law way 0;law yield not ";
        for (String part : new String[] {"0", "9999", "10000", "not", "scale", "size", "area", "length", "crowd", "torn", "season"}) {
            String full = "law gain 1" + "+1".repeat(30) + ";law way 0;law yield not not ";
            fault(2, full.length(), full + part + ";");
            fault(2, full.length() + 2, full + "((" + part);
        }
        fine(3, waits + "1;").due(64, "count", 4);
        fault(2, waits.length() + 1, waits + "1+1;");
        fault(2, waits.length() + 2, waits + "1\n/0;");
        fine(3, waits + "((((((((1))))))));").due(64, "count", 4);
        // Where it can't stand the 65th is fault 1.
        for (String token : new String[] {"1", "scale", "not", "(", ")", "#", "x", "yard"}) {
            fault(1, ones.length() + 1, ones + " " + token);
        }
        String compared = "law gain 1" + "+1".repeat(30) + ";law way 0<1";
        fine(2, compared + ";").due(64, "count", 4);
        fault(1, compared.length(), compared + "<1;");
        fault(2, compared.length(), compared + "+1;");
        // One E alone, and each kind of knot is one.
        fine(1, "law gain " + "not ".repeat(63) + "1;").due(64, "count", 4);
        fault(2, 9 + 64 * 4, "law gain " + "not ".repeat(64) + "1;");
        fault(2, 9 + 64 * 4, "law gain " + "not ".repeat(65) + "1;");
        fine(1, "law gain 1 or scale and not size <= area + length - crowd * torn / season;").due(16, "count", 4);
        fine(1, "law gain 1<1;").due(3, "count", 4);
        fine(1, "law gain ((1));").due(1, "count", 4);
        fine(1, "tear 1;").due(0, "count", 4);
    }

    private static void toldAlready() {
        String one = "region pp 1 1 1;";
        fault(3, 23, one + "region pp 1 1 1;");
        fault(3, 23, one + "region pp #");
        fine(2, one + "region ppp 1 1 1;");
        fine(2, one + "region p 1 1 1;");
        fine(2, one + "person pp pp 1 1;");
        fault(3, one.length() * 2 + 2 + 7, one + "person pp pp 1 1;" + " person pp pp 1 1;");
        fault(3, TOLD.length() + 7, TOLD + "person a #");
        String joined = TOLD + "join p q 1;";
        fault(3, joined.length() + 7, joined + "join p q 9;");
        fault(3, joined.length() + 7, joined + "join q p 9;");
        fault(3, joined.length() + 7, joined + "join q p");
        fault(5, joined.length() + 7, joined + "join q q");
        String owing = TOLD + "person b p 1 1;debt a 1;";
        fault(3, owing.length() + 5, owing + "debt a 1;");
        fault(3, owing.length() + 5, owing + "debt a");
        fine(6, owing + "debt b 1 yard;");
        fault(3, owing.length() + 14 + 5, owing + "debt b 1 yard;debt b 1;");
        fault(3, 7, "tear 0;tear 0;");
        fault(3, 8, "tear 2; tear");
        fault(3, 7 + TOLD.length(), "tear 2;" + TOLD + "tear 8;");
        for (String law : new String[] {"gain", "yield", "way"}) {
            String told = "law " + law + " 1;";
            fault(3, told.length() + 4, told + "law " + law + " 1;");
            fault(3, told.length() + 4, told + "law " + law);
            fault(3, told.length() + 5, told + "law\n\n" + law + "#");
        }
        fine(3, "law way 1;law yield 1;law gain 1;");
    }

    private static void untold() {
        fault(4, 5, "join p q 1;");
        fault(4, 5, "join p p 1;");
        fault(4, 5, "join p");
        fault(4, 20, "region p 1 1 1;join q p 1;");
        fault(4, 22, "region p 1 1 1;join p q 1;");
        fault(4, 22, "region p 1 1 1;join p q 1;region q 1 1 1;");
        fault(4, 9, "person a p 1 1;region p 1 1 1;");
        fault(4, 24, "region p 1 1 1;person p a 1 1;");
        fault(4, 24, "region p 1 1 1;person a a 1 1;");
        fault(4, 5, "debt a 1;");
        fault(4, TOLD.length() + 5, TOLD + "debt p 1;");
        fault(4, TOLD.length() + 5, TOLD + "debt aa 1;");
        fault(4, TOLD.length() + 5, TOLD + "join a q 1;");
        // A name itself isn't told before its line's end.
        fault(4, 9, "person a a 1 1;");
    }

    private static void itself() {
        fault(5, TOLD.length() + 7, TOLD + "join p p 1;");
        fault(5, TOLD.length() + 8, TOLD + "join q  q");
        fault(5, TOLD.length() + 7, TOLD + "join p p 0;");
    }

    /** The first along the text, whatever its number; what comes behind it isn't looked at. */
    private static void firstFault() {
        fault(5, TOLD.length() + 7, TOLD + "join p p #;region p 0 0 0;");
        fault(4, TOLD.length() + 7, TOLD + "join p x 0;join p p 1;");
        fault(3, TOLD.length() + 7, TOLD + "region p 0 0 0;");
        fault(2, TOLD.length() + 9, TOLD + "region x 0 #;");
        fault(1, TOLD.length() + 9, TOLD + "region x # 0;");
        fault(2, 5, "tear 9 9;");
        fault(1, 7, "tear 8 9;");
        fault(1, 4, "law tear;");
        fault(2, 9, "law gain 10000 10000;");
        fault(1, 5, "tear -1;");
        fault(1, 6, "tear 1.5;");
        fault(1, 9, "region p +1 1 1;");
    }

    private static void faultOfTheLatest() {
        Run run = new Run(CHECK).feed("tear 9;").due(NONE, "text", 7).due(2, "fault", 0).due(5, "fault", 1);
        run.due(-2, "text", 1).due(-2, "text", -1).due(2, "fault", 0).due(5, "fault", 1);
        run.feed("join").due(2, "fault", 0).due(NONE, "text", 4).due(1, "fault", 0).due(4, "fault", 1);
        run.due(0, "text", 0).due(0, "fault", 0).due(NONE, "fault", 1);
        run.due(NONE, "fault", 2).due(NONE, "fault", -1).due(NONE, "fault", MAX).due(NONE, "fault", MIN);
        run.feed("#").due(NONE, "text", 1).due(1, "fault", 0).due(0, "fault", 1).due(NONE, "fault", 2).due(NONE, "fault", -1);
    }

    private static void names() {
        Run run = Run.of(CHECK, "region a 1 1 1;region aa 1 1 1;region aaaaaa 1 1 1;region zzzzzz 1 1 1;region b 1 1 1;"
                + "person aa a 1 1;person a a 1 1;person zzzzzz a 1 1;");
        run.due(0, "named", 0, 1 << 25).due(1, "named", 0, 1 << 25 | 1 << 20).due(4, "named", 0, 2 << 25);
        run.due(2, "named", 0, 0x02108421).due(3, "named", 0, Check.letters("zzzzzz"))
                .due(NONE, "named", 0, Check.letters("aaa"));
        run.due(NONE, "named", 0, Check.letters("zzzzzy")).due(NONE, "named", 0, Check.letters("zzzzz"));
        run.due(1, "named", 1, 1 << 25).due(0, "named", 1, 1 << 25 | 1 << 20).due(2, "named", 1, Check.letters("zzzzzz"));
        run.due(NONE, "named", 1, 2 << 25);
        for (int what = 0; what <= 1; what++) {
            for (int letters : new int[] {0, 1, -1, MIN, MAX, 1 << 20, 1 << 30 | 1 << 25, MIN | 1 << 25, 1 << 25 | 1, 27 << 25}) {
                run.due(NONE, "named", what, letters);
            }
        }
        for (int what : new int[] {MIN, -1, 2, MAX}) {
            run.due(NONE, "named", what, 1 << 25);
        }
        run.tell("region b 1 1 1;");
        run.due(NONE, "named", 0, 1 << 25).due(0, "named", 0, 2 << 25).due(NONE, "named", 1, 1 << 25);
    }
}
