/** Texts that several tests tell. */
final class Realms {
    static final String SMALL = "region p 3 9 2;region q 5 30 1;region r 8 10 3;join p q 4;join q r 9;"
            + "person a p 5 2;person b p 2 1;person c q 5 1;debt a 12 yard;debt c 7;tear 2;";
    static final String SIX_REGIONS = "region a 1 1 9;region b 2 2 9;region c 3 30 9;region d 4 99 1;region e 5 5 0;region f 9 9 9;";
    static final String NINE_JOINS = "join a b 1;join b c 2;join c d 3;join d e 4;join e f 5;join a c 6;join b d 7;join c e 8;join d f 9;";
    static final String EIGHT_PEOPLE = "person a a 9 1;person b a 2 2;person c b 3 3;person d c 4 0;person e d 5 1;person f e 6 2;"
            + "person g f 9 3;person h f 1 1;";
    static final String SIX_DEBTS = "debt a 5 yard;debt b 99;debt c 1 yard;debt d 50;debt e 7 yard;debt h 3;";
    /** 11, 9 and 44 knots. */
    static final String SIXTY_FOUR_KNOTS = "law gain 9-(scale-size)*(scale-size)+torn;law yield area*scale/3+crowd-torn;"
            + "law way (not torn)+length/3+scale/4" + "+0".repeat(17) + ";";
    /** As much of everything as a text can tell: 33 lines. */
    static final String FULL = SIX_REGIONS + NINE_JOINS + EIGHT_PEOPLE + SIX_DEBTS + SIXTY_FOUR_KNOTS + "tear 2;";

    private Realms() {
    }
}
