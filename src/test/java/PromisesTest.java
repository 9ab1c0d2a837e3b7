import java.util.NoSuchElementException;

/** Each promise of the document, by its number: ordinary inputs, edges and wrong inputs, worked out by hand. */
public final class PromisesTest {
    private static final int NONE = -1;
    private static final int MIN = Integer.MIN_VALUE;
    private static final String REALM = "region p 3 9 2;region q 5 30 1;region r 8 10 3;join p q 4;join q r 9;"
            + "person a p 5 2;person b p 2 1;person c q 5 1;debt a 12 yard;debt c 7;tear 2;";
    private static final Check CHECK = new Check();

    public static void main(String[] args) {
        promise1();
        promise2();
        promise3();
        promise4Tokens();
        promise4Other();
        promise4Laws();
        promise5();
        promise6();
        promise7();
        promise8();
        promise9();
        promise10();
        promise11();
        promise12();
        promise13();
        promise14();
        promise15();
        promise16();
        promise17();
        promise18();
        promise19();
        promise20And21();
        promise22();
        promise23();
        promise24();
        promise25();
        promise26And27();
        promise28And29();
        promise30();
        promise31();
        promise32();
        promise33();
        promise34();
        promise35And36();
        promise37();
        CHECK.end();
    }

    private static void due(String call, long want, long got) {
        CHECK.due(call, want, got);
    }

    private static void yes(String call, boolean got) {
        CHECK.due(call, true, got);
    }

    private static void no(String call, boolean got) {
        CHECK.due(call, false, got);
    }

    private static void promise1() {
        ScaleVote x = new ScaleVote();
        for (int what = 0; what <= 13; what++) {
            due("1: count(" + what + ") of a new one", 0, x.count(what));
        }
        due("1: no fault", 0, x.fault(0));
        due("1: no place", NONE, x.fault(1));
        due("1: the tape is empty", -2, x.text(1));
        due("1: nothing of it is a text", 0, x.text(0));
        due("1: seasons go by", 7, x.seasons(7));
        due("NONE", -1, ScaleVote.NONE);
    }

    private static void promise2() {
        ScaleVote x = new ScaleVote();
        // "tear 8;tear 0;" and blanks: the highest byte of a number comes first.
        due("2: feed", 20, x.feed(0x74656172, 0x20383b20, 0x20202020, 0x20202020, 0x20202020));
        due("2: the bytes in order", 1, x.text(20));
        for (int k = 1; k <= 35; k++) {
            due("2: feed " + k, 20 * k, x.feed(0x20202020, 0x0a0a0a0a, 0x20202020, 0x20202020, 0x20202020));
        }
        due("2: more than 700", NONE, x.feed(1, 2, 3, 4, 5));
        due("2: none came", -2, x.text(701));
        due("2: blanks alone", 0, x.text(700));
        due("2: the tape is empty behind it", 20, x.feed(-1, -1, -1, -1, -1));
        due("2: bytes above 127 are no tokens", NONE, x.text(1));
        due("2: at the first", 0, x.fault(1));
    }

    private static void promise3() {
        ScaleVote x = new ScaleVote();
        due("3: below 0", -2, x.text(-1));
        due("3: fed", 20, Check.feed(x, "tear 3;tear"));
        due("3: more than there are", -2, x.text(21));
        due("3: the tape stays", 40, x.feed(0, 0, 0, 0, 0));
        due("3: the first bytes alone", 1, x.text(7));
        due("3: it is empty then", -2, x.text(1));
        Check.feed(x, "tear 55;");
        due("3: cut in a number", NONE, x.text(6));
        due("3: more must come", 6, x.fault(1));
        Check.feed(x, "law gain scales");
        due("3: cut in a word", NONE, x.text(14));
        due("3: more must come", 14, x.fault(1));
        Check.feed(x, "law gain 1 <= 2;");
        due("3: cut in a sign", NONE, x.text(12));
        due("3: more must come", 12, x.fault(1));
        due("3: lines", 11, Check.tell(x, REALM));
        due("3: lines without regions", 4, Check.tell(x, "tear 0;law way 1;\nlaw gain 2 ; law yield 3 ;\n"));
        due("3: told anew", 0, x.count(0));

        x = Check.told(REALM);
        x.canvass(0, 1);
        x.seasons(1);
        x.stone(1, 0, 4, true);
        x.known(0);
        x.keep();
        x.canvass(1, 0);
        x.decree(0, 9);
        due("3: a fault", NONE, Check.tell(x, "region p 1 1 1"));
        due("3: the tape is empty with a fault", -2, x.text(1));
        due("3: season stays", 1, x.count(5));
        due("3: canvassed stays", 1, x.count(10));
        due("3: stones stay", 1, x.count(11));
        due("3: known stays", 0, x.count(12));
        due("3: undo stays", 2, x.count(13));
        due("3: scale stays", 9, x.region(0, 0));
        due("3: knots stay", 0, x.count(4));
        due("3: -2 leaves all", -2, x.text(9));
        due("3: and the fault", 1, x.fault(0));
        Check.tell(x, REALM);
        due("3: season 0", 0, x.count(5));
        due("3: nobody canvassed", 0, x.count(10));
        due("3: no stones", 0, x.count(11));
        due("3: all known", 0, x.stone(1, 0, 4, true));
        due("3: by all", 1, x.count(12));
        due("3: nothing to undo", NONE, x.undo());
        due("3: no image", NONE, x.back());
        due("3: torn by scales", 1, x.count(7));
        due("3: nothing yielded", 0, x.count(8));
        due("3: nobody too big", 0, x.count(9));
    }

    /** The fault of a text that must have one, and its place. */
    private static void fault(int kind, int place, String text) {
        ScaleVote x = new ScaleVote();
        due("text of '" + text + "'", NONE, Check.tell(x, text));
        due("fault of '" + text + "'", kind, x.fault(0));
        due("place of '" + text + "'", place, x.fault(1));
    }

    private static void fine(int lines, String text) {
        ScaleVote x = new ScaleVote();
        due("text of '" + text + "'", lines, Check.tell(x, text));
        due("fault of '" + text + "'", 0, x.fault(0));
        due("place of '" + text + "'", NONE, x.fault(1));
    }

    private static void promise4Tokens() {
        ScaleVote x = new ScaleVote();
        due("4: another what", NONE, x.fault(2));
        due("4: another what", NONE, x.fault(-1));
        fault(1, 0, ";");
        fault(1, 0, "p");
        fault(1, 0, "regions");
        fault(1, 2, "\n Region p 1 1 1;");
        fault(1, 0, "\ttear 1;");
        fault(1, 6, "tear 1");
        fault(1, 7, "tear 1\n");
        fault(1, 9, "tear 1   ");
        fault(1, 5, "tear ;");
        fault(1, 7, "tear 1 1;");
        fault(1, 7, "tear 1;;");
        fault(1, 7, "tear 1;x");
        fault(1, 7, "region abcdefg 1 1 1;");
        fine(1, "region abcdef 1 1 1;");
        fault(1, 7, "region area 1 1 1;");
        fault(1, 7, "region 1 1 1 1;");
        fault(1, 9, "region p q 1 1;");
        fault(1, 12, "region p 1 1;");
        fault(1, 12, "region p 1 1");
        fine(1, "region p1 1\n1;");
        fine(1, "region p 0001 0099 000;");
        fine(2, "region p 1 1 1;person p p 1 1;");
        fault(1, 43, "region p 1 1 1;person p p 1 1;debt p 1 yard");
        fault(1, 44, "region p 1 1 1;person p p 1 1;debt p 1 yard yard;");
        fault(1, 39, "region p 1 1 1;person p p 1 1;debt p 1 yards;");
    }

    private static void promise4Other() {
        fault(2, 9, "region p 10 1 1;");
        fault(2, 11, "region p 9 100 1;");
        fault(2, 13, "region p 9 9 10;");
        fault(2, 9, "region p 99999999999999999999 1 1;");
        fault(2, 5, "tear 9;");
        fault(2, 5, "tear 4294967297;");
        fine(1, "tear 8;");
        fine(1, "tear 0;");
        String two = "region p 1 1 1;region q 1 1 1;";
        fault(2, 39, two + "join p q 10;");
        fine(3, two + "join p q 9;");
        fault(4, 35, two + "join x x 1;");
        fault(4, 37, two + "join p x 1;");
        fault(5, 37, two + "join p p 1;");
        fault(1, 37, two + "join p 1;");
        fault(3, 48, two + "join p q 1;join p q x;");
        fault(3, 48, two + "join p q 1;join q p 1;");
        fault(4, 24, "region p 1 1 1;person a b 1 1;");
        fault(3, 37, "region p 1 1 1;person a p 1 1;person a p 1 1;");
        fault(2, 26, "region p 1 1 1;person a p 10 1;");
        String one = "region p 1 1 1;person a p 9 3;person b p 1 0;";
        fine(3, one);
        fault(2, 52, one + "debt a 100;");
        fault(4, 50, one + "debt p 1;");
        fine(5, one + "debt a 99;debt b 1 yard;");
        fault(3, 59, one + "debt b 1;debt b x;");
        fault(3, 7, "tear 1;tear x;");
        StringBuilder many = new StringBuilder("region p 1 1 1;");
        for (char name = 'a'; name <= 'g'; name++) {
            many.append("person ").append(name).append(" p 1 1;");
        }
        for (char name = 'a'; name <= 'f'; name++) {
            many.append("debt ").append(name).append(" 1;");
        }
        fine(14, many.toString());
        String eight = many.toString().replaceAll("debt.*", "") + "person h p 1 1;";
        fine(9, eight);
        fault(2, eight.length(), eight + "person a;");
        String six = "region a 1 1 1;region b 1 1 1;region c 1 1 1;region d 1 1 1;region e 1 1 1;region f 1 1 1;";
        fine(6, six);
        fault(2, six.length() + 1, six + " region;");
        String nine = six + "join a b 1;join a c 1;join a d 1;join a e 1;join a f 1;join b c 1;join b d 1;join b e 1;join b f 1;";
        fine(15, nine);
        fault(2, nine.length(), nine + "join a b 1;");
        fault(2, many.length(), many + "debt g 1;");
        fault(2, many.length(), many + "debt;");
    }

    private static void promise4Laws() {
        fault(1, 3, "law;");
        fault(1, 4, "law ;");
        fault(1, 4, "law p 1;");
        fault(1, 4, "law or 1;");
        fault(3, 14, "law way 1;law way;");
        fault(3, 15, "law gain 1;law gain");
        fault(1, 9, "law gain ;");
        fault(1, 9, "law gain p;");
        fault(1, 10, "law gain 1");
        fault(1, 11, "law gain 1 1;");
        fault(1, 11, "law gain 1 not 1;");
        fault(1, 9, "law gain - 1;");
        fault(1, 13, "law gain 1 + not 1;");
        fault(1, 13, "law gain 1 < not 1;");
        fault(1, 15, "law gain 1 < 2 < 3;");
        fault(1, 15, "law gain 1 < 2 = 3;");
        fault(1, 19, "law gain not 1 < 2 > 3;");
        fault(1, 19, "law gain 1 < 2 + 3 < 4;");
        fault(1, 23, "law gain 1 < 2 + 3 * 4 = 5;");
        fault(1, 15, "law gain 1 < 2 <> 3;");
        fine(1, "law gain 1 < (2 < 3);");
        fine(1, "law gain (1 < 2) < 3;");
        fine(1, "law gain 1 < 2 and 2 < 3 or not not 3 >= 4 and not (scale <> size);");
        fault(1, 14, "law gain 1 <= - 2;");
        fault(1, 13, "law gain 1 < = 2;");
        fault(1, 13, "law gain 1 < > 2;");
        fault(1, 12, "law gain 1 =< 2;");
        fault(1, 13, "law gain 1 >=> 2;");
        fault(1, 12, "law gain 1 >< 2;");
        fault(1, 11, "law gain (1;");
        fault(1, 10, "law gain 1);");
        fault(1, 10, "law gain ();");
        fault(1, 11, "law gain 1 (2);");
        fault(2, 9, "law gain 10000;");
        fine(1, "law gain 09999;");
        fine(1, "law gain ((((((((1))))))))+((((((((1))))))));");
        fault(2, 17, "law gain (((((((((1)))))))));");
        fault(1, 17, "law gain (((((((1(");
        // 61 knots, and two more by the other law: the sign is the 64th.
        String all = "law gain 1" + "+1".repeat(30) + ";law way not 1";
        fault(1, all.length(), all);
        fine(2, all + ";");
        fault(1, all.length() + 1, all + "+;");
        fault(2, all.length() + 1, all + "+1;");
        fault(2, all.length() + 1, all + "+scale;");
        fault(2, all.length() + 2, all + "+(1);");
        String signs = "law gain 1" + "+1".repeat(31) + ";law way 1";
        fine(2, signs + ";");
        fault(2, signs.length(), signs + "+1;");
        fault(2, signs.length(), signs + "<1;");
        fault(2, signs.length() + 1, signs + " and 1;");
        fault(2, signs.length() + 1, signs + " or 1;");
    }

    private static void promise5() {
        ScaleVote x = Check.told("region ab 1 1 1;region abcdef 1 1 1;region b 1 1 1;person b b 1 1;person z ab 1 1;");
        due("5: ab", 0, x.named(0, Check.letters("ab")));
        due("5: abcdef", 1, x.named(0, Check.letters("abcdef")));
        due("5: b", 2, x.named(0, 2 << 25));
        due("5: person b", 0, x.named(1, 2 << 25));
        due("5: person z", 1, x.named(1, 26 << 25));
        due("5: no person ab", NONE, x.named(1, Check.letters("ab")));
        due("5: no letters", NONE, x.named(0, 0));
        due("5: b not highest", NONE, x.named(0, 2));
        due("5: a and b apart", NONE, x.named(0, 1 << 25 | 2 << 15));
        due("5: below 0", NONE, x.named(0, -1));
        due("5: another what", NONE, x.named(2, 2 << 25));
        due("5: another what", NONE, x.named(-1, 2 << 25));
    }

    /** 1: IndexOutOfBoundsException, 2: NoSuchElementException, 0: neither. */
    private static int thrown(ScaleVote x, int person, int what) {
        try {
            x.person(person, what);
        } catch (IndexOutOfBoundsException e) {
            return 1;
        } catch (NoSuchElementException e) {
            return 2;
        }
        return 0;
    }

    private static void promise6() {
        ScaleVote x = Check.told(REALM);
        due("6: region", 1, x.person(2, 0));
        due("6: size", 2, x.person(1, 1));
        due("6: weight", 2, x.person(0, 2));
        due("6: larger", 1, x.person(0, 3));
        due("6: smaller", -1, x.person(1, 3));
        due("6: neither", 0, x.person(2, 3));
        x.canvass(0, 0);
        due("6: canvassed", 0, x.person(0, 3));
        due("6: so it is", 1, x.person(0, 5));
        due("6: so it isn't", 0, x.person(1, 5));
        x.seasons(2);
        // By b alone p is 2, then 3 by a, whose size 5 is above both.
        due("6: too big", 2, x.person(0, 4));
        due("6: not too big", 0, x.person(1, 4));
        due("6: canvassed no more", 0, x.person(0, 5));
        due("6: no such person", 1, thrown(x, 3, 0));
        due("6: no such person", 1, thrown(x, -1, 0));
        due("6: neither", 1, thrown(x, 3, 6));
        due("6: no such what", 2, thrown(x, 0, 6));
        due("6: no such what", 2, thrown(x, 0, -1));
        due("6: what 5", 0, thrown(x, 2, 5));

        ScaleVote edge = Check.told("region p 9 1 9;region q 1 1 9;person a p 9 1;person b q 1 1;law gain scale;");
        due("6: nothing beyond 9", 0, edge.person(0, 3));
        due("6: larger first", 1, edge.person(1, 3));
        edge = Check.told("region p 9 1 9;region q 1 1 9;region r 5 1 9;person a p 9 1;person b q 1 1;"
                + "person c r 1 1;law gain (scale - 5) * (scale - 5);");
        due("6: smaller isn't more", 0, edge.person(0, 3));
        due("6: nothing below 1", 0, edge.person(1, 3));
        due("6: both are more: larger", 1, edge.person(2, 3));
    }

    private static void promise7() {
        ScaleVote x = Check.told(REALM);
        due("7: scale", 8, x.region(2, 0));
        due("7: area", 30, x.region(1, 1));
        due("7: homes", 3, x.region(2, 2));
        due("7: how many", 2, x.region(0, 3));
        due("7: vote", 1, x.region(0, 4));
        due("7: would yield, cut", 26, x.region(2, 5));
        due("7: yielded", 0, x.region(0, 6));
        due("7: torn", 1, x.region(2, 7));
        x.seasons(2);
        due("7: yielded 12 and 15", 27, x.region(0, 6));
        due("7: no such region", MIN, x.region(3, 0));
        due("7: no such region", MIN, x.region(-1, 0));
        due("7: no such what", MIN, x.region(0, 8));
        due("7: no such what", MIN, x.region(0, -1));

        x = Check.told("region p 9 99 0;law yield 9999 * 9 + torn;");
        due("7: 9999 at most", 9999, x.region(0, 5));
        x = Check.told("region p 9 99 0;law yield 0 - area;");
        due("7: 0 at least", 0, x.region(0, 5));
        x = Check.told("region p 9 99 0;law yield area / (scale - 9);");
        due("7: with an error", 297, x.region(0, 5));
        x.decree(0, 8);
        due("7: without one", 0, x.region(0, 5));
        x.decree(0, 9);
        x = Check.told("region p 2 7 5;person a p 1 0;law yield size * 100 + length * 50 + crowd * 10 + area + season;");
        due("7: names of yield", 17, x.region(0, 5));
    }

    private static void promise8() {
        ScaleVote x = Check.told(REALM);
        due("8: length", 9, x.join(2, 1, 0));
        due("8: length", 4, x.join(0, 1, 0));
        due("8: whole", 0, x.join(1, 0, 1));
        due("8: torn", 1, x.join(1, 2, 1));
        due("8: there is none", -2, x.join(0, 2, 1));
        due("8: of one with itself", -2, x.join(1, 1, 0));
        due("8: no such what", NONE, x.join(0, 1, 2));
        due("8: no such what", NONE, x.join(0, 1, -1));
        due("8: no such region", NONE, x.join(0, 3, 0));
        due("8: no such region", NONE, x.join(-1, 1, 0));
        x = Check.told("region p 1 1 1;region q 3 1 1;region r 4 1 1;join p q 1;join p r 1;");
        due("8: by 2 without tear", 0, x.join(0, 1, 1));
        due("8: by 3 without tear", 1, x.join(0, 2, 1));
        x = Check.told("region p 1 1 1;region q 9 1 1;join p q 1;tear 8;");
        due("8: never by 8", 0, x.join(0, 1, 1));
        x = Check.told("region p 1 1 1;region q 2 1 1;join p q 1;tear 0;");
        due("8: by 0", 1, x.join(0, 1, 1));
    }

    private static void promise9() {
        ScaleVote x = Check.told(REALM);
        due("9: without a law", 9, x.gain(0, 5));
        due("9: without a law", 5, x.gain(0, 1));
        due("9: without a law", 2, x.gain(1, 9));
        due("9: no such scale", MIN, x.gain(0, 0));
        due("9: no such scale", MIN, x.gain(0, 10));
        due("9: no such person", MIN, x.gain(3, 1));
        due("9: no such person", MIN, x.gain(-1, 1));
        x = Check.told("region p 2 5 3;region q 9 1 1;join p q 7;person a p 3 1;"
                + "law gain 0 - 40 + scale * 30 + size * 3 + area + length * 1000 + crowd * 7 + torn * 2 + season;");
        due("9: all names", -40 + 30 + 9 + 5 + 7 + 2, x.gain(0, 1));
        x.seasons(1);
        due("9: the season", -40 + 30 + 9 + 5 + 7 + 2 + 1, x.gain(0, 1));
        due("9: 99 at most", 99, x.gain(0, 9));
        x = Check.told("region p 2 5 3;person a p 3 1;law gain 0 - scale * 50;");
        due("9: -50", -50, x.gain(0, 1));
        due("9: -99 at least", -99, x.gain(0, 2));
        x = Check.told("region p 2 5 3;person a p 3 1;law gain 50 / (scale - 2);");
        due("9: cut towards 0", -50, x.gain(0, 1));
        due("9: an error", 8, x.gain(0, 2));
        due("9: cut", 16, x.gain(0, 5));
    }

    private static long value(String law) {
        return Check.told("region p 4 5 3;person a p 3 1;law gain " + law + ";").law(0, 0);
    }

    private static void promise10() {
        due("10: times first", 7, value("1 + 2 * 3"));
        due("10: in brackets", 9, value("(1 + 2) * 3"));
        due("10: from the left", -4, value("1 - 2 - 3"));
        due("10: from the left", 20, value("100 / 10 * 2"));
        due("10: cut towards 0", -2, value("(0 - 5) / 2"));
        due("10: cut towards 0", 2, value("5/2"));
        due("10: less", 1, value("1 + 1 < 3"));
        due("10: not less", 0, value("3 < 3"));
        due("10: less or like", 1, value("3 <= 3"));
        due("10: like", 0, value("3 = 4"));
        due("10: unlike", 1, value("3 <> 4"));
        due("10: unlike", 0, value("4 <> 4"));
        due("10: more or like", 1, value("3>=3"));
        due("10: more", 0, value("3>3"));
        due("10: not binds less than a comparison", 0, value("not 0 < 1"));
        due("10: not before and", 0, value("not 1 and 0"));
        due("10: not not", 1, value("not not 7"));
        due("10: 63 nots", 0, value("not ".repeat(63) + "7"));
        due("10: 62 nots and as many brackets as may be", 1, value("((((((((" + "not ".repeat(62) + "7))))))))"));
        due("10: 63 knots", 32, value("1" + "+1".repeat(31)));
        due("10: waiting signs", 21, value("1+(2+(3+(4+(5+(6)))))"));
        due("10: waiting signs of all levels", 0, value("not 1 or 0 and not 3 < 4 + 5 * (2 or 0 and 1 + 1 * 1)"));
        due("10: and before or", 1, value("1 or 1 and 0"));
        due("10: and", 1, value("5 and 9"));
        due("10: and", 0, value("5 and 0"));
        due("10: or", 1, value("0 or 9"));
        due("10: or", 0, value("0 or 0"));
        due("10: both sides are worked out", Long.MIN_VALUE, value("1 or 1 / 0"));
        due("10: both sides are worked out", Long.MIN_VALUE, value("0 and 1 / 0"));
        due("10: 10 to the 12", 1000000000000L, value("1000 * 1000 * 1000 * 1000"));
        due("10: above it", Long.MIN_VALUE, value("1000 * 1000 * 1000 * 1000 + 1"));
        due("10: above it on the way", Long.MIN_VALUE, value("1000 * 1000 * 1000 * 1000 + 1 - 1"));
        due("10: below 0", -1000000000000L, value("0 - 1000 * 1000 * 1000 * 1000"));
        due("10: more below 0", Long.MIN_VALUE, value("0 - 1000 * 1000 * 1000 * 1000 - 1"));
        String big = "(1000 * 1000 * 1000 * 1000)";
        due("10: beyond a long", Long.MIN_VALUE, value(big + " * " + big));
        due("10: times 0", 0, value("0 * " + big));
        due("10: times -1", -1000000000000L, value("(0 - 1) * " + big));
        due("10: times 2", Long.MIN_VALUE, value(big + " * 2"));
        due("10: scale size area length crowd torn season", 4 * 100 + 3 * 10 + 5 + 1, value(
                "scale * 100 + size * 10 + area + length + crowd + torn + season"));

        String laws = "region p 2 5 3;region q 6 7 3;join q p 8;person a p 3 1;person b p 3 1;person c q 1 1;"
                + "law yield scale * 1000 + size * 100 + area * 10 + length + crowd + torn;"
                + "law way scale * 1000 + size * 100 + area * 10 + length * 5 + crowd * 2 + torn;";
        ScaleVote x = Check.told(laws);
        due("10: no such law", Long.MIN_VALUE, x.law(0, 0));
        due("10: yield", 2000 + 50 + 2 + 1, x.law(1, 0));
        due("10: yield", 6000 + 70 + 1 + 1, x.law(1, 1));
        due("10: way from the first told", 6000 + 40 + 2 + 1, x.law(2, 0));
        due("10: no such ones", Long.MIN_VALUE, x.law(1, 2));
        due("10: no such ones", Long.MIN_VALUE, x.law(1, -1));
        due("10: no such ones", Long.MIN_VALUE, x.law(2, 1));
        due("10: no such ones", Long.MIN_VALUE, x.law(3, 0));
        due("10: no such ones", Long.MIN_VALUE, x.law(-1, 0));
        x = Check.told("region p 2 5 3;person a p 3 1;law gain season * 500;");
        x.seasons(3);
        due("10: E itself, not within bounds", 1500, x.law(0, 0));
        due("10: no such person", Long.MIN_VALUE, x.law(0, 1));
    }

    private static void promise11() {
        ScaleVote x = Check.told(REALM);
        yes("11: canvass", x.canvass(2, 1));
        no("11: it is so", x.canvass(2, 1));
        yes("11: otherwise", x.canvass(2, -1));
        due("11: the region's vote", -1, x.region(1, 4));
        yes("11: to vote as it would", x.canvass(0, 1));
        yes("11: neither", x.canvass(2, 0));
        due("11: two are", 2, x.count(10));
        no("11: no such vote", x.canvass(0, 2));
        no("11: no such vote", x.canvass(0, -2));
        no("11: no such person", x.canvass(3, 0));
        no("11: no such person", x.canvass(-1, 0));
        x.canvass(0, -1);
        due("11: in the next season", 1, x.seasons(1));
        due("11: smaller", 2, x.region(0, 0));
        due("11: no more", 0, x.count(10));
        x.seasons(1);
        due("11: larger again", 3, x.region(0, 0));
    }

    private static void promise12() {
        ScaleVote x = Check.told(REALM);
        yes("12: move", x.move(0, 2));
        due("12: is there", 2, x.person(0, 0));
        due("12: one less", 1, x.region(0, 3));
        due("12: one more", 1, x.region(2, 3));
        due("12: votes there", -2, x.region(2, 4));
        no("12: there already", x.move(0, 2));
        no("12: no home", x.move(0, 1));
        yes("12: one has gone", x.move(2, 0));
        yes("12: so there is a home", x.move(0, 1));
        no("12: no such region", x.move(0, 3));
        no("12: no such region", x.move(0, -1));
        no("12: no such person", x.move(3, 0));
        no("12: no such person", x.move(-1, 0));
        x = Check.told("region p 1 1 0;region q 1 1 1;person a p 1 1;person b p 1 1;");
        yes("12: from where too many are", x.move(0, 1));
        no("12: more than homes", x.move(0, 0));
    }

    private static void promise13() {
        ScaleVote x = Check.told(REALM);
        yes("13: decree", x.decree(2, 7));
        due("13: scale", 7, x.region(2, 0));
        due("13: whole at once", 0, x.join(1, 2, 1));
        no("13: it is so", x.decree(2, 7));
        yes("13: again", x.decree(1, 1));
        due("13: torn at once", 1, x.join(1, 2, 1));
        due("13: not by 2", 0, x.join(0, 1, 1));
        due("13: torn of the region", 1, x.region(1, 7));
        no("13: no such scale", x.decree(0, 0));
        no("13: no such scale", x.decree(0, 10));
        no("13: no such region", x.decree(3, 1));
        no("13: no such region", x.decree(-1, 1));
        yes("13: the most", x.decree(0, 9));
        yes("13: the least", x.decree(0, 1));
    }

    private static void promise14() {
        ScaleVote x = Check.told(REALM);
        due("14: none", 0, x.seasons(0));
        due("14: below 0", NONE, x.seasons(-1));
        due("14: beyond 99", NONE, x.seasons(100));
        due("14: none went by", 0, x.count(5));
        due("14: two", 2, x.seasons(2));
        // p: 3, 4, 5 by a (2) against b (1); then a is content and b makes it smaller.
        due("14: p", 5, x.region(0, 0));
        due("14: one more", 3, x.seasons(1));
        due("14: p", 4, x.region(0, 0));
        due("14: q is as it is", 5, x.region(1, 0));
        due("14: yields of p", 12 + 15 + 12, x.region(0, 6));
        due("14: a is too big by 4 and 4", 2, x.person(0, 4));
        for (int k = 1; k <= 100; k++) {
            due("14: on and on", 3 + 99 * k, x.seasons(99));
        }
        due("14: behind 9999", NONE, x.seasons(97));
        due("14: up to 9999", 9999, x.seasons(96));
        due("14: no more", NONE, x.seasons(1));
        due("14: none", 9999, x.seasons(0));

        x = Check.told("region p 9 1 9;region q 1 1 9;join p q 1;person a p 1 1;person b q 1 1;tear 7;"
                + "law gain 5;law yield torn * 100 + season * 10 + scale;");
        x.canvass(0, 1);
        x.canvass(1, -1);
        x.seasons(1);
        due("14: 9 at most", 9, x.region(0, 0));
        due("14: 1 at least", 1, x.region(1, 0));
        due("14: by the season that goes by", 100 + 9, x.region(0, 6));
        x.canvass(0, -1);
        x.seasons(1);
        due("14: torn by the scales behind the vote", 109 + 10 + 8, x.region(0, 6));
        x = Check.told("region p 5 1 9;region q 5 1 9;join p q 1;person a p 5 1;person b q 5 1;tear 0;"
                + "law gain scale * (1 - torn * 2);");
        x.canvass(0, 0);
        x.seasons(1);
        due("14: larger", 6, x.region(1, 0));
        x.seasons(1);
        due("14: all vote by what is ahead of it", 4 + 5, x.region(0, 0) + x.region(1, 0));
    }

    private static void promise15() {
        ScaleVote x = Check.told(REALM);
        due("15: now", 3, x.ahead(0, 0, 0));
        due("15: nothing yet", 0, x.ahead(0, 0, 1));
        due("15: p", 5, x.ahead(0, 2, 0));
        due("15: p yields", 27, x.ahead(0, 2, 1));
        due("15: nothing went by", 0, x.count(5));
        x.canvass(0, -1);
        due("15: canvassed in the next one alone", 3, x.ahead(0, 2, 0));
        due("15: still canvassed", 1, x.count(10));
        x.seasons(1);
        due("15: more than now", 9, x.ahead(0, 1, 1));
        due("15: up to 60", 60 * 50, x.ahead(1, 60, 1));
        due("15: no such n", NONE, x.ahead(0, 61, 0));
        due("15: no such n", NONE, x.ahead(0, -1, 0));
        due("15: no such region", NONE, x.ahead(3, 1, 0));
        due("15: no such region", NONE, x.ahead(-1, 1, 0));
        due("15: no such what", NONE, x.ahead(0, 1, 2));
        due("15: no such what", NONE, x.ahead(0, 1, -1));
    }

    private static void promise16() {
        ScaleVote x = Check.told("region p 3 1 9;person a p 9 1;");
        due("16: up to 9", 6, x.steady(6));
        due("16: up to 9", 6, x.steady(99));
        due("16: not by then", -2, x.steady(5));
        due("16: no such n", NONE, x.steady(0));
        due("16: no such n", NONE, x.steady(100));
        x.canvass(0, 0);
        due("16: the next one changes none", 0, x.steady(1));
        x.canvass(0, -1);
        due("16: 3 2 3 .. 9", 8, x.steady(8));
        due("16: swings", -2, Check.told(REALM).steady(99));
    }

    private static void promise17() {
        ScaleVote x = Check.told("region p 3 1 9;region q 1 1 1;person a p 9 3;person b p 9 2;person c p 1 1;"
                + "person d p 1 0;person e q 1 0;");
        // Sums of b, c: -3, -1 (c), 1 (b), 3; with a 3: -3 + 3 isn't above 0, 3 - 3 isn't either; d, of 0, doubles.
        due("17: a", 6, x.decides(0));
        // a, c: -4, -2 (c), 2 (a), 4: with b 2 only that of a.
        due("17: b", 2, x.decides(1));
        // a, b: -5, -1 (b), 1 (a), 5: with c 1 only that of a.
        due("17: c", 2, x.decides(2));
        due("17: d", 0, x.decides(3));
        due("17: e alone, of 0", 0, x.decides(4));
        due("17: no such person", NONE, x.decides(5));
        due("17: no such person", NONE, x.decides(-1));
        x.canvass(0, -1);
        due("17: whoever is canvassed", 6, x.decides(0));
    }

    private static void promise18() {
        ScaleVote x = Check.told("region p 5 1 9;region q 5 1 9;region r 5 1 1;person a p 1 1;person b q 1 3;"
                + "person c p 1 2;person d p 9 1;person e p 1 1;person f r 5 0;");
        // p: a -1, c -2, d 1, e -1: -3.
        due("18: it is that way", 0, x.buy(0, false));
        due("18: c alone makes 1", 4, x.buy(0, true));
        x.canvass(2, 0);
        due("18: it is -1: a makes 1", 1, x.buy(0, true));
        x.canvass(3, -1);
        // a -1, d -1, e -1: c makes -1, a -1; a and c make 1.
        due("18: of several the least", 1 | 4, x.buy(0, true));
        due("18: b", 2, x.buy(1, true));
        due("18: of weight 0", -2, x.buy(2, true));
        due("18: of weight 0", -2, x.buy(2, false));
        due("18: no such region", NONE, x.buy(3, true));
        due("18: no such region", NONE, x.buy(-1, false));
        x.canvass(1, 0);
        due("18: smaller", 2, x.buy(1, false));
    }

    private static void promise19() {
        ScaleVote x = Check.told(REALM);
        due("19: all", 147, x.best(0));
        due("19: the third", 9, x.best(3));
        due("19: not so many", -2, x.best(4));
        due("19: another what", NONE, x.best(5));
        due("19: another what", NONE, x.best(-1));
        x = Check.told("region a 5 1 1;region b 5 1 1;law yield (scale = 3) + (scale = 7);");
        due("19: two", 2, x.best(0));
        due("19: the least in sum", 3, x.best(1));
        due("19: the least in sum", 3, x.best(2));
        x = Check.told("region a 5 1 1;region b 5 1 1;join a b 1;tear 0;law yield torn * 5 + (scale > 7);");
        // 8 and 9 make 12, in sum 17 either way.
        due("19: torn by these scales", 12, x.best(0));
        due("19: first by regions", 8, x.best(1));
        due("19: first by regions", 9, x.best(2));
        due("19: nothing changed", 5, x.region(0, 0));
        x = Check.told("region a 1 1 1;region b 1 1 1;region c 1 1 1;region d 1 1 1;region e 4 30 1;region f 2 9 1;"
                + "join a e 1;join d f 1;tear 3;law yield area * scale * (1 - torn);");
        // e stays 4, f 2: a is 7 at most for e to yield, d 5 at most.
        due("19: the fifth is as now", 7 + 9 + 9 + 5 + 120 + 18, x.best(0));
        due("19: a", 7, x.best(1));
        due("19: b", 9, x.best(2));
        due("19: c", 9, x.best(3));
        due("19: d", 5, x.best(4));
        x.decree(4, 6);
        due("19: as now", 9 + 9 + 9 + 5 + 180 + 18, x.best(0));
        x = Check.told("region a 5 1 1;region b 5 2 1;region c 5 3 1;law yield (scale = 8 / area) + (area = 3) * (scale = 1);");
        due("19: each by itself", 3, x.best(0));
        due("19: 8 by 1", 8, x.best(1));
        due("19: 8 by 2", 4, x.best(2));
        due("19: 1 before 2", 1, x.best(3));
        x = Check.told("region a 5 1 1;law yield 0;");
        due("19: nothing", 0, x.best(0));
        due("19: by the least", 1, x.best(1));
    }

    private static void promise20And21() {
        ScaleVote x = Check.told(REALM);
        due("20: gaps", 5, x.gaps());
        due("21: region", 0, x.mend(0));
        due("21: gaps then", 4, x.mend(1));
        due("21: another what", NONE, x.mend(2));
        due("21: another what", NONE, x.mend(-1));
        x = Check.told("region a 4 1 1;region b 6 1 1;region c 6 1 1;join b a 1;join a c 1;join b c 1;");
        due("20: gaps", 4, x.gaps());
        due("21: a", 0, x.mend(0));
        due("21: two less", 2, x.mend(1));
        x.decree(1, 2);
        x.decree(2, 3);
        // 4, 2, 3: 2 + 1 + 1; a one less: 1 + 0 + 1; b one more: 1 + 1 + 0.
        due("20: gaps", 4, x.gaps());
        due("21: of several the first", 0, x.mend(0));
        due("21: gaps then", 2, x.mend(1));
        x.decree(0, 3);
        x.decree(1, 3);
        due("20: none", 0, x.gaps());
        due("21: by none", -2, x.mend(0));
        due("21: as now", 0, x.mend(1));
        x = Check.told("region a 5 1 1;region b 6 1 1;region c 4 1 1;region d 9 1 1;join a b 1;join a c 1;");
        due("21: b, not a", 1, x.mend(0));
        due("21: one", 1, x.mend(1));
        due("20: without joins", 0, Check.told("region a 1 1 1;region b 9 1 1;").gaps());
    }

    private static void promise22() {
        ScaleVote x = Check.told(REALM);
        due("22: 4 times 3 by 20", 1, x.way(0, 1, 0));
        due("22: torn, always", -2, x.way(1, 2, 0));
        due("22: to itself", 0, x.way(1, 1, 0));
        due("22: to itself later", 60, x.way(1, 1, 60));
        due("22: out 59", 60, x.way(0, 1, 59));
        due("22: beyond 60", -2, x.way(0, 1, 60));
        due("22: no such out", NONE, x.way(0, 1, 61));
        due("22: no such out", NONE, x.way(0, 1, -1));
        due("22: no such region", NONE, x.way(0, 3, 0));
        due("22: no such region", NONE, x.way(-1, 0, 0));
        x.decree(2, 6);
        due("22: 9 times 5 by 20", 3, x.way(1, 2, 0));
        due("22: 9 times 6 by 20, and 4 times 5", 3 + 2, x.way(2, 0, 0));
        due("22: nothing changed", 3, x.region(0, 0));
        // q from 1 on up to 9: torn from r (9) till 7, that is 6 seasons.
        x = Check.told("region p 1 1 9;region q 1 1 9;region r 9 1 9;join p q 1;join q r 5;person a q 9 1;");
        due("22: waits at q", 6 + 1 + 7 * 5 / 20, x.way(1, 2, 0));
        due("22: p q is torn behind 3", -2, x.way(0, 2, 3));
        due("22: but not behind 2", 8, x.way(0, 2, 2));
        x.canvass(0, -1);
        due("22: as it goes, by those canvassed", 9, x.way(1, 2, 0));
        x = Check.told("region p 9 1 9;region q 9 1 9;join p q 9;person a p 1 1;law way scale - 3;");
        // Behind 0: 6; behind 4 seasons p is 5: 2; but torn from q from 3 on.
        due("22: waits for a quicker way", 2 + 4, x.way(0, 1, 0));
        due("22: the other way", 6, x.way(1, 0, 0));
        x = Check.told("region p 9 1 9;region q 9 1 9;join p q 9;person a p 1 1;tear 8;law way scale - 3;");
        due("22: 9 6, 8 5, 7 4, 6 3, 5 2, 4 1", 6, x.way(0, 1, 0));
        due("22: 1 at least", 9, x.way(0, 1, 8));
        x = Check.told("region p 9 1 9;region q 9 1 9;join p q 9;law way 500;");
        due("22: 9 at most", 9, x.way(0, 1, 0));
        x = Check.told("region p 9 1 9;region q 9 1 9;join p q 9;law way 1 / 0;");
        due("22: with an error", 5, x.way(0, 1, 0));
        x = Check.told("region p 9 1 9;region q 9 1 9;join p q 9;law way 9 - season;");
        x.seasons(2);
        due("22: by the season when one leaves", 7, x.way(0, 1, 0));
        due("22: by the season when one leaves", 7, x.way(0, 1, 6));
    }

    private static void promise23() {
        ScaleVote x = Check.told(REALM);
        due("23: at once", 0, x.setOut(0, 1));
        due("23: to itself", 0, x.setOut(2, 2));
        due("23: never", -2, x.setOut(1, 2));
        due("23: no such region", NONE, x.setOut(0, 3));
        due("23: no such region", NONE, x.setOut(-1, 0));
        x = Check.told("region p 1 1 9;region q 1 1 9;region r 9 1 9;join p q 1;join q r 5;person a q 9 1;");
        due("23: by the last whole season of p q", 2, x.setOut(0, 2));
        due("23: till q r is whole", 6, x.setOut(1, 2));
        x = Check.told("region p 9 1 9;region q 9 1 9;join p q 9;law way 9 - season;");
        due("23: 9 - 4, and so on", 8, x.setOut(0, 1));
        x = Check.told("region p 9 1 9;region q 9 1 9;join p q 9;law way (season < 30) * 99;");
        due("23: comes behind 9", 0, x.setOut(0, 1));
        x = Check.told("region p 1 1 9;region q 9 1 9;join p q 9;tear 0;person a p 9 1;");
        due("23: 1 up to 9", 8, x.setOut(0, 1));
        // By the season q is wanted larger from 25 on: the way is open behind 27 alone.
        x = Check.told("region p 6 1 9;region q 2 1 9;join p q 1;person a q 9 1;law gain scale * (season >= 25);");
        due("23: open behind 27", 28, x.way(0, 1, 0));
        due("23: 20 at most", 20, x.setOut(0, 1));
    }

    private static void promise24() {
        ScaleVote x = Check.told(REALM);
        due("24: a", 0, x.live(0));
        due("24: b", 0, x.live(1));
        due("24: c", 1, x.live(2));
        due("24: no such person", NONE, x.live(3));
        due("24: no such person", NONE, x.live(-1));
        x = Check.told("region p 3 1 1;region q 3 1 1;person a q 3 1;person b p 3 1;");
        due("24: first by people", 0, x.live(0));
        due("24: first by people", 1, x.live(1));
        x = Check.told("region p 3 1 1;region q 3 1 0;person a q 3 1;person b p 3 1;");
        due("24: too few homes", -2, x.live(0));
        x = Check.told("region p 2 1 1;region q 8 1 1;person a p 3 1;person b q 1 1;");
        due("24: 4 + 8 above 8 + 2", 1, x.live(0));
        due("24: 4 + 8 above 8 + 2", 0, x.live(1));
        x = Check.told("region p 1 1 9;region q 1 1 9;person a q 3 1;person b q 3 1;law gain crowd;");
        due("24: crowd as now", 1, x.live(0));
        due("24: crowd as now", 1, x.live(1));
        x = Check.told("region p 1 5 9;region q 1 7 9;region r 1 6 2;person a q 3 1;person b q 3 1;"
                + "law gain 0 - 99 + area;");
        due("24: below 0", 1, x.live(1));
        x = Check.told("region a 1 1 2;region b 2 1 2;region c 3 1 1;region d 4 1 1;region e 5 1 1;region f 6 1 1;"
                + "person a a 6 1;person b a 6 1;person c a 5 1;person d a 5 1;person e a 4 1;person f a 4 1;"
                + "person g a 3 1;person h a 3 1;law gain scale;");
        // All like any home alike: so first by people.
        int[] want = {0, 0, 1, 1, 2, 3, 4, 5};
        for (int person = 0; person < 8; person++) {
            due("24: eight in six, " + person, want[person], x.live(person));
        }
    }

    private static void promise25() {
        ScaleVote x = Check.told(REALM);
        x.decree(0, 4);
        due("25: 12 by 4 by 3", 16, x.owed(0, 0));
        x.decree(0, 1);
        due("25: 12 by 1 by 3", 4, x.owed(0, 0));
        x.decree(1, 9);
        due("25: fixed", 7, x.owed(1, 0));
        due("25: the person", 2, x.owed(1, 1));
        due("25: as told", 12, x.owed(0, 2));
        x.move(0, 2);
        x.decree(2, 7);
        due("25: by the region it is in, 12 by 7 by 8, cut", 10, x.owed(0, 0));
        due("25: no such debt", NONE, x.owed(2, 0));
        due("25: no such debt", NONE, x.owed(-1, 0));
        due("25: no such what", NONE, x.owed(0, 3));
        due("25: no such what", NONE, x.owed(0, -1));
    }

    private static void promise26And27() {
        ScaleVote x = Check.told(REALM);
        due("26: two", 2, x.rests(0, 1));
        due("27: larger, larger", 0, x.rest(0, 1, 0));
        due("27: larger, smaller", 1, x.rest(0, 1, 1));
        due("27: no so many", -2, x.rest(0, 1, 2));
        due("27: k below 0", NONE, x.rest(0, 1, -1));
        due("27: the other way round", 10, x.rest(1, 0, 1));
        due("26: not in one region", NONE, x.rests(0, 2));
        due("27: not in one region", NONE, x.rest(0, 2, 0));
        due("26: alike", NONE, x.rests(1, 1));
        due("27: alike", NONE, x.rest(1, 1, 0));
        due("26: no such person", NONE, x.rests(0, 3));
        due("26: no such person", NONE, x.rests(-1, 0));
        due("27: no such person", NONE, x.rest(0, 3, 0));
        x.canvass(0, -1);
        due("26: whoever is canvassed", 2, x.rests(0, 1));
        // Both of weight 1 and size 5 at 5: against each other it stays, which is best for both.
        x = Check.told("region p 5 1 9;person a p 5 1;person b p 5 1;");
        due("26: 01 and 10", 2, x.rests(0, 1));
        due("27: 01", 1, x.rest(0, 1, 0));
        due("27: 10", 10, x.rest(0, 1, 1));
        x = Check.told("region p 5 1 9;person a p 9 1;person b p 1 1;person c p 9 2;");
        // By c it is larger but where both vote smaller: so b is as well off by both, if a votes larger.
        due("26: 00 and 01", 2, x.rests(0, 1));
        due("27: 00", 0, x.rest(0, 1, 0));
        due("27: 01", 1, x.rest(0, 1, 1));
        x.canvass(2, -1);
        // By c it is smaller but where both vote larger.
        due("26: others as they vote: 01 and 11", 2, x.rests(0, 1));
        due("27: 01", 1, x.rest(0, 1, 0));
        due("27: 11", 11, x.rest(0, 1, 1));
        x.canvass(2, 0);
        due("26: a larger, b smaller", 1, x.rests(0, 1));
        due("27: 01", 1, x.rest(0, 1, 0));
        x.decree(0, 9);
        // At 9 it is 8 only where both vote smaller.
        due("26: 00 and 01", 2, x.rests(0, 1));
        due("27: 00", 0, x.rest(0, 1, 0));
        x = Check.told("region p 9 1 9;person a p 9 1;person b p 9 0;");
        // At 9 larger stays 9: b changes nothing.
        due("26: 00 and 01", 2, x.rests(0, 1));
        x = Check.told("region p 5 1 9;person a p 5 0;person b p 5 0;");
        due("26: all four", 4, x.rests(0, 1));
        due("27: the last", 11, x.rest(0, 1, 3));
        due("27: no fifth", -2, x.rest(0, 1, 4));
    }

    private static void promise28And29() {
        ScaleVote x = Check.told(REALM);
        due("28: below 1", NONE, x.stone(0, 0, 1, true));
        due("28: beyond 30", NONE, x.stone(31, 0, 1, true));
        due("28: no such region", NONE, x.stone(1, 3, 1, true));
        due("28: no such region", NONE, x.stone(1, -1, 1, true));
        due("28: no such scale", NONE, x.stone(1, 0, 0, true));
        due("28: no such scale", NONE, x.stone(1, 0, 10, true));
        due("29: no such stone", NONE, x.strike(0));
        due("28: the first", 0, x.stone(1, 0, 1, true));
        due("28: the next", 1, x.stone(30, 2, 9, false));
        due("29: numbered on", 2, x.strike(0));
        due("29: of a strike", 3, x.strike(2));
        due("29: no such stone", NONE, x.strike(4));
        due("29: no such stone", NONE, x.strike(-1));
        for (int k = 4; k < 24; k++) {
            due("28: more", k, k % 2 == 0 ? x.stone(k, 1, 5, true) : x.strike(k - 1));
        }
        due("28: there are 24", NONE, x.stone(1, 0, 1, true));
        due("29: there are 24", NONE, x.strike(0));
        due("28: all count", 24, x.count(11));
        x.seasons(1);
        due("28: not by a season", 24, x.count(11));
    }

    private static void promise30() {
        ScaleVote x = Check.told(REALM);
        no("30: no such n", x.known(1));
        no("30: no such n", x.known(-2));
        yes("30: by none", x.known(0));
        due("30: by none", 0, x.count(12));
        x.stone(1, 0, 5, true);
        x.stone(1, 0, 9, true);
        due("30: still by none", 1022, x.had(0));
        yes("30: by one", x.known(1));
        due("30: by one", 0b1111010000, x.had(0));
        due("30: one", 1, x.count(12));
        yes("30: by two", x.known(2));
        // At 9 both want it smaller; at 8 too: none is 9 behind a season.
        due("30: by two", 0, x.had(0));
        x.strike(1);
        due("30: the strike isn't known", 0, x.had(0));
        no("30: no such n", x.known(4));
        yes("30: by all", x.known(-1));
        due("30: the strike is", 0b1111010000, x.had(0));
        x.strike(2);
        due("30: those to come too: the strike is struck", 0, x.had(0));
        due("30: all", 4, x.count(12));
        x.strike(3);
        due("30: and that one", 0b1111010000, x.had(0));
        x.known(4);
        due("30: without the last", 0, x.had(0));
    }

    private static void promise31() {
        ScaleVote x = Check.told(REALM);
        due("31: without stones", 1022, x.had(2));
        due("31: no such region", NONE, x.had(3));
        due("31: no such region", NONE, x.had(-1));
        x.decree(0, 9);
        x.move(0, 2);
        x.canvass(1, 0);
        x.seasons(3);
        x.stone(1, 0, 4, true);
        // As told: a and b in p; larger below 5 (a), smaller from 5 on.
        due("31: from the text on", 0b1111111000, x.had(0));
        x.stone(1, 0, 4, false);
        due("31: never both", 0, x.had(0));
        x = Check.told("region p 3 9 2;region q 5 1 1;person a p 9 1;person b q 5 1;");
        x.stone(2, 0, 5, true);
        due("31: p was 3 at least", 0b1111111000, x.had(0));
        x.stone(3, 0, 7, false);
        due("31: and 3 at most", 0b1000, x.had(0));
        due("31: of q all may be", 1022, x.had(1));
        x.stone(30, 1, 6, false);
        x.stone(1, 1, 5, false);
        due("31: q, which comes to 5: 3 at most", 0b1110, x.had(1));
        due("31: p: q isn't so as told", 0, x.had(0));
        x = Check.told("region p 5 1 2;region q 5 1 1;join p q 1;tear 0;person a p 5 1;law gain scale * (torn * 2 - 1);");
        x.stone(1, 0, 6, true);
        // Torn, p grows; whole it shrinks: at 5 alone it isn't torn.
        due("31: torn by the scale it had", 0b1111100000 ^ 0b0000100000, x.had(0));
    }

    private static void promise32() {
        ScaleVote x = Check.told(REALM);
        due("32: empty region", 10, x.chance(7, 60, 2, 8));
        due("32: empty region", 0, x.chance(7, 60, 2, 9));
        due("32: below 0", NONE, x.chance(-1, 1, 0, 1));
        due("32: the largest seed", 10, x.chance(2147483647, 1, 0, 1));
        due("32: no such n", NONE, x.chance(0, 0, 0, 1));
        due("32: no such n", NONE, x.chance(0, 61, 0, 1));
        due("32: no such region", NONE, x.chance(0, 1, 3, 1));
        due("32: no such region", NONE, x.chance(0, 1, -1, 1));
        due("32: no such scale", NONE, x.chance(0, 1, 0, 0));
        due("32: no such scale", NONE, x.chance(0, 1, 0, 10));
        x = Check.told("region p 5 1 9;person a p 5 1;law gain 0;");
        // One draw a time, two where it is below 20: p is 6 where the second one modulo 3 is 2.
        for (int seed = 0; seed < 40; seed++) {
            long last = seed;
            int larger = 0;
            int notSmaller = 0;
            for (int k = 0; k < 10; k++) {
                last = (last * 1103515245L + 12345L) % 2147483648L;
                long vote = 1;
                if (last / 65536 % 100 < 20) {
                    last = (last * 1103515245L + 12345L) % 2147483648L;
                    vote = last / 65536 % 3;
                }
                larger += vote == 2 ? 1 : 0;
                notSmaller += vote >= 1 ? 1 : 0;
            }
            due("32: larger, seed " + seed, larger, x.chance(seed, 1, 0, 6));
            due("32: not smaller, seed " + seed, notSmaller, x.chance(seed, 1, 0, 5));
        }
        x.canvass(0, 1);
        for (int seed = 0; seed < 40; seed++) {
            due("32: canvassed by call, seed " + seed, 10, x.chance(seed, 1, 0, 6));
        }
        due("32: nothing changed", 1, x.count(10));
        due("32: nothing went by", 0, x.count(5));
    }

    private static void promise33() {
        ScaleVote x = Check.told(REALM);
        due("33: nobody votes", 2 * 85, x.tried(0, 0, 2));
        due("33: all of weight 1", 85, x.tried(1, 0, 1));
        due("33: without a", 82, x.tried(2, 0, 1));
        due("33: without b", 88, x.tried(2, 1, 1));
        due("33: all larger", 98, x.tried(4, 0, 1));
        due("33: none", 0, x.tried(4, 0, 0));
        due("33: up to 60", 60 * 85, x.tried(0, 0, 60));
        due("33: no such n", NONE, x.tried(0, 0, 61));
        due("33: no such n", NONE, x.tried(0, 0, -1));
        due("33: no such what", NONE, x.tried(5, 0, 1));
        due("33: no such what", NONE, x.tried(-1, 0, 1));
        due("33: no such person", NONE, x.tried(2, 3, 1));
        due("33: no such person", NONE, x.tried(2, -1, 1));
        for (int what = 0; what <= 4; what++) {
            if (what != 2) {
                due("33: i of " + what, NONE, x.tried(what, 1, 1));
            }
        }
        x.canvass(0, -1);
        due("33: nobody, canvassed or not", 85, x.tried(0, 0, 1));
        due("33: a doesn't vote, canvassed or not", 82, x.tried(2, 0, 1));
        due("33: without b, a as canvassed", 82, x.tried(2, 1, 1));
        due("33: larger is wanted, a is canvassed", 6 + 60 + 26, x.tried(4, 0, 1));
        x.seasons(1);
        due("33: more than now", 82, x.count(8));
        due("33: more than now", 6 + 50 + 26, x.tried(0, 0, 1));
        x = Check.told("region p 1 1 9;region q 9 1 9;join p q 1;person a p 1 0;person b p 1 0;law yield torn + 1;");
        due("33: as it is", 4, x.ahead(0, 1, 1) + x.ahead(1, 1, 1));
        due("33: tear is 8", 2, x.tried(3, 0, 1));
        due("33: weight 1 in place of 0", 4, x.tried(1, 0, 1));
        due("33: tear is as told again", 4, x.tried(0, 0, 1));
        due("33: torn", 1, x.count(7));
    }

    private static void promise34() {
        ScaleVote x = Check.told(REALM);
        due("34: none", NONE, x.undo());
        x.canvass(0, 1);
        x.canvass(0, -1);
        x.move(0, 2);
        x.decree(2, 6);
        x.decree(2, 7);
        due("34: decree", 4, x.undo());
        due("34: 6 again", 6, x.region(2, 0));
        due("34: decree", 3, x.undo());
        due("34: 8 again", 8, x.region(2, 0));
        due("34: torn again", 1, x.join(1, 2, 1));
        due("34: move", 2, x.undo());
        due("34: in p again", 0, x.person(0, 0));
        due("34: two in p", 2, x.region(0, 3));
        due("34: none in r", 0, x.region(2, 3));
        due("34: canvass", 1, x.undo());
        due("34: larger again", 1, x.person(0, 3));
        due("34: canvassed still", 1, x.person(0, 5));
        due("34: canvass", 0, x.undo());
        due("34: not canvassed", 0, x.person(0, 5));
        due("34: none", NONE, x.undo());
        for (int k = 0; k < 25; k++) {
            x.decree(0, 4 + k % 2);
        }
        due("34: 20 at most", 20, x.count(13));
        for (int k = 19; k >= 0; k--) {
            due("34: the latest first", k, x.undo());
            due("34: what was ahead", 4 + k % 2, x.region(0, 0));
        }
        due("34: none", NONE, x.undo());
        due("34: the first five stay", 4, x.region(0, 0));
        x = Check.told(REALM);
        for (int k = 0; k < 8; k++) {
            x.decree(k % 2, 1 + k);
            x.canvass(2, k % 3 - 1);
            x.move(k % 2, k < 4 ? 2 : 0);
        }
        // 8 decrees, 8 canvassed and the moves 0 1 (to r), 0 1 (to p): 20; one more pushes the first decree out.
        due("34: all of them", 20, x.count(13));
        x.decree(2, 1);
        due("34: the oldest falls away", 20, x.count(13));
        for (int k = 19; k >= 0; k--) {
            due("34: of all kinds", k, x.undo());
        }
        due("34: nobody is canvassed", 0, x.count(10));
        due("34: the first decree stays", 1, x.region(0, 0));
        due("34: q as told", 5, x.region(1, 0));
        due("34: r as told", 8, x.region(2, 0));
        due("34: two in p", 2, x.region(0, 3));
        x = Check.told(REALM);
        x.decree(0, 9);
        x.decree(0, 9);
        x.seasons(0);
        due("34: no season went by", 1, x.count(13));
        x.seasons(100);
        due("34: nor here", 1, x.count(13));
        x.seasons(1);
        due("34: one did", NONE, x.undo());
        due("34: one did", 8, x.region(0, 0));
    }

    private static void promise35And36() {
        ScaleVote x = Check.told(REALM);
        due("36: none", NONE, x.back());
        x.seasons(2);
        x.canvass(2, 1);
        x.move(1, 2);
        x.decree(2, 7);
        due("35: keep", 2, x.keep());
        due("35: undo stays", 3, x.count(13));
        due("35: undo stays", 2, x.undo());
        x.stone(1, 0, 1, true);
        x.move(0, 2);
        x.seasons(4);
        x.stone(1, 0, 1, true);
        x.known(1);
        x.canvass(0, 1);
        due("36: back", 2, x.back());
        due("36: season", 2, x.count(5));
        due("36: canvassed", 1, x.count(10));
        due("36: who is", 1, x.person(2, 5));
        due("36: where a is", 0, x.person(0, 0));
        due("36: where b is", 2, x.person(1, 0));
        due("36: how many", 1, x.region(2, 3));
        due("36: scale", 7, x.region(2, 0));
        due("36: whole", 0, x.count(7));
        due("36: yielded", 12 + 15 + 100 + 52, x.count(8));
        due("36: too big", 1, x.count(9));
        due("36: nothing to undo", NONE, x.undo());
        due("36: stones stay", 2, x.count(11));
        due("36: known stays", 1, x.count(12));
        x.seasons(3);
        due("36: again", 2, x.back());
        x.seasons(5);
        due("35: in place of one ahead", 7, x.keep());
        x.seasons(1);
        due("36: the latest", 7, x.back());
        due("36: fault, image stays", NONE, Check.tell(x, "x"));
        due("36: fault, image stays", 7, x.back());
        due("36: which isn't of the fault", 1, x.fault(0));
        Check.tell(x, "tear 1;");
        due("36: none of a new text", NONE, x.back());
    }

    private static void promise37() {
        ScaleVote x = Check.told(REALM + "law way (1 + 2) * scale or not 1;");
        int[] want = {3, 2, 3, 2, 8, 0, 16, 1, 0, 0, 0, 0, 0, 0};
        for (int what = 0; what < want.length; what++) {
            due("37: count(" + what + ")", want[what], x.count(what));
        }
        x.seasons(3);
        x.canvass(1, 1);
        x.canvass(1, -1);
        x.canvass(2, 0);
        x.decree(0, 9);
        x.stone(1, 1, 1, true);
        x.strike(0);
        x.known(1);
        want = new int[] {3, 2, 3, 2, 8, 3, 22, 2, 39 + 150 + 78, 2, 2, 2, 1, 4};
        for (int what = 0; what < want.length; what++) {
            due("37: count(" + what + ") later", want[what], x.count(what));
        }
        due("37: another what", NONE, x.count(14));
        due("37: another what", NONE, x.count(-1));
    }
}
