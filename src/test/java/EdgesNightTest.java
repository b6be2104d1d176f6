import java.math.BigInteger;
import java.util.Map;

/** Boundary cases of a NIGHT, KEPT, ACTS and DRAWS (terms II), and of promises 6, 8 to 10 and 23 to 30. */
public final class EdgesNightTest {
    private static final int LOW = Integer.MIN_VALUE;
    private static final int HIGH = Integer.MAX_VALUE;
    private static final int NIGHT = 3;
    private static final int MILE = 4;
    private static final int ROUNDS = 5;
    private static final int TALKING = 6;
    private static final int HUSH = 7;
    private static final int FAR = 8;
    private static final int KEPT = 9;
    private static final int MARKED = 10;
    private static final int ACTS = 11;
    private static final int SEED = 12;

    private EdgesNightTest() {
    }

    private static void due(String what, long got, long want) {
        Check.due(what, got, want);
    }

    private static void due(String what, boolean got, boolean want) {
        Check.due(what, got, want);
    }

    /** Where the voice is, how often it has been round, for how long it talks. */
    private static void isAt(Voice v, int mile, int rounds, int talking) {
        due("MILE", v.has(MILE), mile);
        due("times round", v.has(ROUNDS), rounds);
        due("talking", v.has(TALKING), talking);
    }

    /** One NIGHT of that house. */
    private static void night(String house, int mile, int rounds, int talking) {
        Voice v = Voice.of(house);
        v.nights(1);
        isAt(v, mile, rounds, talking);
    }

    /** The next seed, by the document's words. */
    private static int next(int seed) {
        BigInteger x = BigInteger.valueOf(1103515245).multiply(BigInteger.valueOf(seed)).add(BigInteger.valueOf(12345));
        return x.mod(BigInteger.ONE.shiftLeft(31)).intValueExact();
    }

    private static int drawn(int seed, int m) {
        return next(seed) / 64 % m;
    }

    /** The least seed whose first DRAW of 100 is that. */
    private static int seedFor(int draw) {
        int seed = 0;
        while (drawn(seed, 100) != draw) {
            seed++;
        }
        return seed;
    }

    // ---- terms II: a NIGHT

    static void term2_first_nightMileRoundsTalking() {
        Voice v = Voice.of("round 9;voice 3;place p at 3 talk 5;");
        due("NIGHT", v.has(NIGHT), 0);
        isAt(v, 3, 0, 0);
    }

    static void term2_talking_oneNightLessAndItStays() {
        Voice v = Voice.of("round 9;place p at 1 talk 2;");
        v.nights(1);
        isAt(v, 1, 0, 2);
        v.nights(1);
        isAt(v, 1, 0, 1);
        v.nights(1);
        isAt(v, 1, 0, 0);
        v.nights(1);
        isAt(v, 2, 0, 0);
    }

    static void term2_talking_0GoesOnInTheNextNight() {
        Voice v = Voice.of("round 9;place p at 1 talk 0;goes 3;");
        v.nights(1);
        isAt(v, 1, 0, 0);
        v.nights(1);
        isAt(v, 4, 0, 0);
    }

    static void term2_talking_20ToItsEnd() {
        Voice v = Voice.at("round 9;", 0, 4, 0, 20, 0);
        v.nights(19);
        isAt(v, 4, 0, 1);
        v.nights(1);
        isAt(v, 4, 0, 0);
        v.nights(1);
        isAt(v, 5, 0, 0);
    }

    static void term2_goes_below0Is0() {
        night("round 9;voice 4;goes 0-1;", 4, 0, 0);
        night("round 9;voice 4;goes 0-9999*9999;", 4, 0, 0);
    }

    static void term2_goes_0Stays() {
        night("round 9;voice 4;goes 0;", 4, 0, 0);
    }

    static void term2_goes_99IsTheMost() {
        night("round 200;goes 98;", 98, 0, 0);
        night("round 200;goes 99;", 99, 0, 0);
        night("round 200;goes 100;", 99, 0, 0);
        night("round 200;goes 9999*9999;", 99, 0, 0);
    }

    static void term2_goes_withoutItIs1() {
        night("round 9;voice 4;", 5, 0, 0);
    }

    static void term2_goes_byTheMileAndRoundsNow() {
        Voice v = Voice.of("round 9;voice 7;goes if(mile=7,3,0)+5*rounds;");
        v.nights(1);
        isAt(v, 1, 1, 0);
        v.nights(1);
        isAt(v, 6, 1, 0);
    }

    static void term2_round_behindTheLastMileIsMile0() {
        night("round 5;voice 4;", 0, 1, 0);
        night("round 200;voice 199;", 0, 1, 0);
    }

    static void term2_round_atTheLastMileItIsNotYetRound() {
        night("round 5;voice 3;", 4, 0, 0);
        night("round 9;goes 8;", 8, 0, 0);
    }

    static void term2_round_fromMile0AWholeRound() {
        night("round 9;goes 9;", 0, 1, 0);
        night("round 9;goes 17;", 8, 1, 0);
        night("round 9;goes 18;", 0, 2, 0);
    }

    static void term2_round_manyTimesInOneNight() {
        night("round 5;goes 99;", 4, 19, 0);
        night("round 5;voice 1;goes 99;", 0, 20, 0);
    }

    static void term2_round_999TimesAtMost() {
        Voice v = Voice.at("round 5;", 0, 4, 998, 0, 0);
        v.nights(1);
        isAt(v, 0, 999, 0);
        v.nights(5);
        isAt(v, 0, 999, 0);
    }

    static void term2_round_999TimesAtMostInOneNight() {
        Voice v = Voice.at("round 5;goes 99;", 0, 0, 990, 0, 0);
        v.nights(1);
        isAt(v, 4, 999, 0);
    }

    static void term2_place_atTheStridesEnd() {
        night("round 9;place p at 3 talk 2;goes 3;", 3, 0, 2);
    }

    static void term2_place_oneShortOfTheStridesEnd() {
        night("round 9;place p at 2 talk 2;goes 3;", 2, 0, 2);
    }

    static void term2_place_oneBeyondTheStridesEnd() {
        night("round 9;place p at 4 talk 2;goes 3;", 3, 0, 0);
    }

    static void term2_place_theFirstToWhichItComes() {
        night("round 9;place p at 4 talk 2;place q at 2 talk 3;goes 8;", 2, 0, 3);
        night("round 9;voice 3;place q at 2 talk 3;place p at 4 talk 2;goes 8;", 4, 0, 2);
    }

    static void term2_place_whereItIsIsAWholeRoundAway() {
        night("round 5;voice 2;place p at 2 talk 3;goes 4;", 1, 1, 0);
        night("round 5;voice 2;place p at 2 talk 3;goes 5;", 2, 1, 3);
        night("round 5;voice 2;place p at 2 talk 3;goes 99;", 2, 1, 3);
    }

    static void term2_place_goingBy0ItComesToNone() {
        night("round 5;voice 2;place p at 2 talk 3;goes 0;", 2, 0, 0);
    }

    static void term2_place_beyondMile0() {
        night("round 5;voice 4;place p at 1 talk 3;goes 3;", 1, 1, 3);
        night("round 5;voice 4;place p at 1 talk 3;goes 1;", 0, 1, 0);
    }

    static void term2_place_onTheFirstAndTheLastMile() {
        night("round 5;place p at 1 talk 3;goes 9;", 1, 0, 3);
        night("round 5;place p at 4 talk 3;goes 9;", 4, 0, 3);
    }

    static void term2_place_comingToItItIsRoundOnceMore() {
        Voice v = Voice.at("round 5;place p at 1 talk 3;goes 99;", 0, 1, 998, 0, 0, 3);
        v.nights(1);
        isAt(v, 1, 999, 3);
    }

    static void term2_talks_20IsTheMost() {
        night("round 9;place p at 1 talk 2;talks 20;", 1, 0, 20);
        night("round 9;place p at 1 talk 2;talks 21;", 1, 0, 20);
        night("round 9;place p at 1 talk 2;talks 9999*9999;", 1, 0, 20);
    }

    static void term2_talks_below0Is0() {
        night("round 9;place p at 1 talk 2;talks 0;", 1, 0, 0);
        night("round 9;place p at 1 talk 2;talks 0-1;", 1, 0, 0);
        night("round 9;place p at 1 talk 2;talks 0-9999;", 1, 0, 0);
    }

    static void term2_talks_withoutItIsTalk() {
        night("round 9;place p at 1 talk 0;", 1, 0, 0);
        night("round 9;place p at 1 talk 9;", 1, 0, 9);
    }

    static void term2_talks_byTheNightInWhichItComes() {
        Voice v = Voice.of("round 9;place p at 2 talk 2;talks 10*night+talk;");
        v.nights(2);
        isAt(v, 2, 0, 12);
    }

    static void term2_hears_withoutItFarIs9AtMost() {
        due("far 9", Voice.of("round 40;voice 8;ear a row 0 sharp 0;").nights(1), 1);
        due("far 10", Voice.of("round 40;voice 9;ear a row 0 sharp 0;").nights(1), 0);
        due("far 10 on the other side", Voice.of("round 40;voice 29;ear a row 0 sharp 0;").nights(1), 0);
        due("far 9 on the other side", Voice.of("round 40;voice 30;ear a row 0 sharp 0;").nights(1), 1);
        due("far 0", Voice.of("round 40;voice 39;ear a row 0 sharp 0;").nights(1), 1);
    }

    static void term2_hears_byTheMileBehindItsWay() {
        due("far 1 then", Voice.of("round 40;ear a row 0 sharp 0;hears far=1;").nights(1), 1);
        due("far 0 no more", Voice.of("round 40;ear a row 0 sharp 0;hears far=0;").nights(1), 0);
    }

    static void term2_hears_byTheNightItself() {
        due("NIGHT 0", Voice.of("round 40;ear a row 0 sharp 0;hears night=0;").nights(1), 1);
        due("not NIGHT 1", Voice.of("round 40;ear a row 0 sharp 0;hears night=1;").nights(1), 0);
    }

    static void term2_hears_whileItTalks() {
        due("it talks", Voice.at("round 40;ear a row 0 sharp 0;hears far=7;", 0, 7, 0, 3, 0, 0).nights(3), 3);
    }

    static void term2_hears_earByEar() {
        Voice v = Voice.of("round 40;ear a row 0 sharp 1;ear b row 0 sharp 2;ear c row 0 sharp 3;hears sharp=2 or sharp=3;");
        due("one NIGHT", v.nights(1), 1);
        due("EARS", v.kept(0, 2), 6);
    }

    static void term2_hears_all7Ears() {
        StringBuilder ears = new StringBuilder();
        for (int i = 0; i < 7; i++) {
            ears.append("ear ").append((char) ('a' + i)).append(" row 0 sharp ").append(i).append(";");
        }
        Voice v = Voice.of("round 40;" + ears + "hears all;");
        v.nights(1);
        due("EARS", v.kept(0, 2), 127);
        Voice w = Voice.of("round 40;" + ears + "hears sharp=6;");
        w.nights(1);
        due("the last one", w.kept(0, 2), 64);
    }

    static void term2_far_theShorterWay() {
        int[] even = {0, 1, 2, 3, 2, 1};
        int[] odd = {0, 1, 2, 3, 3, 2, 1};
        for (int mile = 0; mile < 6; mile++) {
            due("round 6, MILE " + mile, Voice.of("round 6;voice " + mile + ";").has(FAR), even[mile]);
        }
        for (int mile = 0; mile < 7; mile++) {
            due("round 7, MILE " + mile, Voice.of("round 7;voice " + mile + ";").has(FAR), odd[mile]);
        }
        due("round 200, MILE 100", Voice.of("round 200;voice 100;").has(FAR), 100);
        due("round 200, MILE 101", Voice.of("round 200;voice 101;").has(FAR), 99);
    }

    static void term2_night_oneMoreEachTime() {
        Voice v = Voice.of("round 9;");
        v.nights(1);
        due("1", v.has(NIGHT), 1);
        v.nights(60);
        due("61", v.has(NIGHT), 61);
    }

    static void term2_night_999AtMost() {
        Voice v = Voice.at("round 9;", 998, 0, 0, 0, 0);
        due("the last one", v.nights(1), 0);
        due("999", v.has(NIGHT), 999);
        due("no more", v.nights(1), -1);
        due("999", v.has(NIGHT), 999);
    }

    // ---- terms II: by the seed

    static void term2_seed_drawIsCoughIsNoCough() {
        Voice v = Voice.of("round 9;cough 37;");
        v.seed(seedFor(37));
        due("coughs", v.chance(1), 0);
        due("one DRAW", v.has(SEED), next(seedFor(37)));
    }

    static void term2_seed_drawOneBelowCoughIsACough() {
        Voice v = Voice.of("round 9;cough 38;");
        v.seed(seedFor(37));
        due("coughs", v.chance(1), 1);
        due("two DRAWS", v.has(SEED), next(next(seedFor(37))));
    }

    static void term2_seed_draw0And99() {
        Voice v = Voice.of("round 9;cough 1;");
        v.seed(seedFor(0));
        due("0 is below 1", v.chance(1), 1);
        Voice w = Voice.of("round 9;cough 99;");
        w.seed(seedFor(99));
        due("99 is not below 99", w.chance(1), 0);
        Voice z = Voice.of("round 9;cough 100;");
        z.seed(seedFor(99));
        due("99 is below 100", z.chance(1), 1);
        Voice y = Voice.of("round 9;cough 0;");
        y.seed(seedFor(0));
        due("0 is not below 0", y.chance(1), 0);
    }

    static void term2_seed_theHushOfThatNightAlone() {
        int seed = seedFor(37);
        int cough = drawn(next(seed), 10);
        int other = (cough + 1) % 10;
        Voice v = Voice.of("round 200;cough 38;hush " + other + ";ear a row 0 sharp 0;hears hush=" + cough + ";");
        v.seed(seed);
        due("a cough", v.chance(1), 1);
        due("HEARD by it", v.has(KEPT), 1);
        due("the hush stays", v.has(HUSH), other);
        due("not HEARD in the next NIGHT", v.nights(1), 0);
    }

    static void term2_seed_theCoughIsInGoesAndTalks() {
        int seed = seedFor(5);
        int cough = drawn(next(seed), 10);
        Voice v = Voice.of("round 200;cough 100;hush " + (cough + 5) % 10 + ";goes 20+hush;");
        v.seed(seed);
        v.chance(1);
        due("goes", v.has(MILE), 20 + cough);
        Voice w = Voice.of("round 200;cough 100;hush " + (cough + 5) % 10 + ";place p at 1 talk 0;talks hush+1;");
        w.seed(seed);
        w.chance(1);
        due("talks", w.has(TALKING), cough + 1);
    }

    static void term2_seed_noSecondDrawWithoutACough() {
        Voice v = Voice.of("round 9;cough 0;");
        v.seed(123);
        v.chance(3);
        due("three DRAWS", v.has(SEED), next(next(next(123))));
    }

    static void term2_seed_aSecondDrawInEachCough() {
        Voice v = Voice.of("round 9;cough 100;");
        v.seed(123);
        v.chance(2);
        due("four DRAWS", v.has(SEED), next(next(next(next(123)))));
    }

    static void term2_draw_fromSeed0AndTheHighest() {
        Voice v = Voice.of("round 9;");
        v.seed(0);
        v.chance(1);
        due("from 0", v.has(SEED), 12345);
        v.seed(HIGH);
        v.chance(1);
        due("from the highest", v.has(SEED), next(HIGH));
        due("it is below 2 to the 31", next(HIGH) >= 0, true);
    }

    static void term2_draw_itWrapsAround() {
        Voice v = Voice.of("round 9;");
        int seed = 2;
        v.seed(seed);
        for (int i = 0; i < 16; i++) {
            v.chance(1);
            seed = next(seed);
            due("DRAW " + i, v.has(SEED), seed);
        }
    }

    // ---- terms II: KEPT and ACTS

    private static Voice keeping(int nights) {
        Voice v = Voice.of("round 200;ear a row 0 sharp 0;hears all;");
        for (int left = nights; left > 0; left -= 60) {
            v.nights(Math.min(60, left));
        }
        return v;
    }

    static void term2_kept_noneAtFirst() {
        due("told", keeping(0).has(KEPT), 0);
    }

    static void term2_kept_39AreTold() {
        due("told", keeping(39).has(KEPT), 39);
        due("the oldest", keeping(39).kept(0, 0), 0);
    }

    static void term2_kept_40AreTold() {
        due("told", keeping(40).has(KEPT), 40);
        due("the oldest", keeping(40).kept(0, 0), 0);
        due("the latest", keeping(40).kept(39, 0), 39);
    }

    static void term2_kept_theLast40Of41() {
        due("told", keeping(41).has(KEPT), 40);
        due("the oldest", keeping(41).kept(0, 0), 1);
        due("the latest", keeping(41).kept(39, 0), 40);
    }

    static void term2_kept_theLast40Of999() {
        Voice v = keeping(999);
        due("NIGHT", v.has(NIGHT), 999);
        due("told", v.has(KEPT), 40);
        due("the oldest", v.kept(0, 0), 959);
        due("the latest", v.kept(39, 0), 998);
        due("its MILE", v.kept(39, 1), 999 % 200);
    }

    static void term2_kept_notTheNightsInWhichNobodyHears() {
        Voice v = Voice.of("round 200;ear a row 0 sharp 0;hears night%3=1;");
        due("HEARD", v.nights(9), 3);
        due("told", v.has(KEPT), 3);
        due("the first", v.kept(0, 0), 1);
        due("the last", v.kept(2, 0), 7);
    }

    static void term2_kept_nothingWithoutEars() {
        Voice v = Voice.of("round 9;hears all;");
        due("HEARD", v.nights(60), 0);
        due("told", v.has(KEPT), 0);
    }

    static void term2_kept_mileBehindItsWay() {
        Voice v = Voice.of("round 200;voice 198;ear a row 0 sharp 0;hears all;");
        v.nights(2);
        due("MILE 199", v.kept(0, 1), 199);
        due("MILE 0", v.kept(1, 1), 0);
    }

    private static Voice acting(int acts) {
        Voice v = Voice.of("round 200;");
        for (int i = 0; i < acts; i++) {
            due("an ACT", v.hush(1 + i % 9), true);
        }
        return v;
    }

    private static int undoAll(Voice v) {
        int undone = 0;
        while (undone < 100 && v.undo()) {
            undone++;
        }
        return undone;
    }

    static void term2_acts_19CanBeUndone() {
        Voice v = acting(19);
        due("has", v.has(ACTS), 19);
        due("undone", undoAll(v), 19);
        due("hush", v.has(HUSH), 0);
    }

    static void term2_acts_20CanBeUndone() {
        Voice v = acting(20);
        due("has", v.has(ACTS), 20);
        due("undone", undoAll(v), 20);
        due("hush", v.has(HUSH), 0);
        due("refused", v.status(4), 1);
    }

    static void term2_acts_theLast20Of21() {
        Voice v = acting(21);
        due("has", v.has(ACTS), 20);
        due("undone", undoAll(v), 20);
        due("the first one stays", v.has(HUSH), 1);
    }

    static void term2_acts_theLast20Of50() {
        Voice v = acting(50);
        due("undone", undoAll(v), 20);
        due("30 stay", v.has(HUSH), 1 + 29 % 9);
    }

    static void term2_acts_undoneAndDoneAgain() {
        Voice v = acting(20);
        v.undo();
        v.undo();
        due("has", v.has(ACTS), 18);
        v.hush(0);
        due("has", v.has(ACTS), 19);
        due("undone", undoAll(v), 19);
        due("hush", v.has(HUSH), 0);
    }

    static void term2_acts_eachKindIsOne() {
        Voice v = Voice.of(Voice.HOME);
        v.nights(7);
        due("nights", v.has(ACTS), 1);
        v.chance(7);
        due("chance", v.has(ACTS), 2);
        v.hush(9);
        due("hush", v.has(ACTS), 3);
        v.sit(0, 0);
        due("sit", v.has(ACTS), 4);
        v.please(0, 0);
        due("please", v.has(ACTS), 5);
    }

    static void term2_acts_noOtherCallIsOne() {
        Voice v = Voice.of(Voice.HOME);
        v.seed(5);
        v.rows(0, 0, 1);
        v.image();
        v.feed(1, 2, 3, 4, 5);
        v.end(0);
        v.later(5, 0);
        v.seats(5, 0);
        v.quiet(0, 5);
        v.silence(5);
        due("has", v.has(ACTS), 0);
        due("undo", v.undo(), false);
    }

    // ---- promise 6: has

    static void promise06_has_othersAreNone() {
        Voice v = Voice.lived();
        v.answersNone("has(13)", () -> v.has(13));
        v.answersNone("has(-1)", () -> v.has(-1));
        due("lowest", v.has(LOW), -1);
        due("highest", v.has(HIGH), -1);
    }

    static void promise06_has_withoutAHouseAllBut12Are0() {
        Voice v = new Voice();
        v.seed(9);
        for (int what = 0; what < 12; what++) {
            due("has " + what, v.has(what), 0);
        }
        due("the seed", v.has(SEED), 9);
        due("others", v.has(13), -1);
    }

    static void promise06_has_eachOne() {
        Voice v = Voice.at(Voice.HOME, 300, 19, 256, 20, 9, 8, 7, 6, 5);
        int[] want = {20, 2, 2, 300, 19, 256, 20, 9, 1, 0, 0, 0, 1};
        for (int what = 0; what < want.length; what++) {
            due("has " + what, v.has(what), want[what]);
        }
    }

    static void promise06_has_theMost() {
        Voice v = Voice.at("round 200;ear a row 0 sharp 0;hears all;", 900, 100, 999, 0, 9, 9);
        v.nights(60);
        v.rows(new int[48]);
        v.seed(HIGH);
        for (int i = 0; i < 20; i++) {
            v.hush(i % 2);
        }
        int[] want = {200, 1, 0, 960, 160, 999, 0, 1, 40, 40, 16, 20, HIGH};
        for (int what = 0; what < want.length; what++) {
            due("has " + what, v.has(what), want[what]);
        }
    }

    // ---- promise 8: ear

    static void promise08_ear_ofNoneSuch() {
        Voice v = Voice.lived();
        v.answersNone("EAR 2", () -> v.ear(2, 0));
        v.answersNone("EAR -1", () -> v.ear(-1, 0));
        due("the last one", v.ear(1, 1), 4);
        due("lowest", v.ear(LOW, 0), -1);
        due("highest", v.ear(HIGH, 2), -1);
    }

    static void promise08_ear_othersAreNone() {
        Voice v = Voice.lived();
        v.answersNone("what 3", () -> v.ear(0, 3));
        v.answersNone("what -1", () -> v.ear(0, -1));
    }

    static void promise08_ear_withoutAHouseOrEars() {
        due("no house", new Voice().ear(0, 0), -1);
        due("no EARS", Voice.of("round 9;").ear(0, 0), -1);
    }

    static void promise08_ear_the7thAndThe8th() {
        StringBuilder b = new StringBuilder("round 9;");
        for (int i = 0; i < 7; i++) {
            b.append("ear ").append((char) ('a' + i)).append(" row ").append(i).append(" sharp ").append(9 - i).append(";");
        }
        Voice v = Voice.of(b.toString());
        due("row", v.ear(6, 0), 6);
        due("sharp", v.ear(6, 1), 3);
        due("the 8th", v.ear(7, 0), -1);
    }

    static void promise08_ear_wouldHearWhereItIsNow() {
        due("far 9", Voice.of("round 19;voice 9;ear a row 0 sharp 0;").ear(0, 2), 1);
        due("far 9 from the other side", Voice.of("round 19;voice 10;ear a row 0 sharp 0;").ear(0, 2), 1);
        due("far 10", Voice.of("round 20;voice 10;ear a row 0 sharp 0;").ear(0, 2), 0);
    }

    static void promise08_ear_wouldHearInTheNightAndHushNow() {
        Voice v = Voice.at("round 20;ear a row 0 sharp 0;hears night=999 and hush=9;", 999, 0, 0, 0, 9, 0);
        due("so", v.ear(0, 2), 1);
        v.hush(8);
        due("not so", v.ear(0, 2), 0);
    }

    // ---- promise 9: place

    static void promise09_place_ofNoneSuch() {
        Voice v = Voice.lived();
        v.answersNone("PLACE 2", () -> v.place(2, 0));
        v.answersNone("PLACE -1", () -> v.place(-1, 0));
        due("the last one", v.place(1, 0), 5);
        due("lowest", v.place(LOW, 0), -1);
        due("highest", v.place(HIGH, 2), -1);
    }

    static void promise09_place_othersAreNone() {
        Voice v = Voice.lived();
        v.answersNone("what 3", () -> v.place(0, 3));
        v.answersNone("what -1", () -> v.place(0, -1));
    }

    static void promise09_place_withoutAHouseOrPlaces() {
        due("no house", new Voice().place(0, 0), -1);
        due("no PLACES", Voice.of("round 9;").place(0, 0), -1);
    }

    static void promise09_place_the6thAndThe7th() {
        StringBuilder b = new StringBuilder("round 9;");
        for (int i = 0; i < 6; i++) {
            b.append("place ").append((char) ('a' + i)).append(" at ").append(i + 1).append(" talk ").append(9 - i).append(";");
        }
        Voice v = Voice.of(b.toString());
        due("MILE", v.place(5, 0), 6);
        due("talk", v.place(5, 1), 4);
        due("the 7th", v.place(6, 0), -1);
    }

    static void promise09_place_wouldTalk0To20() {
        String house = "round 9;hush 5;place p at 1 talk 5;talks ";
        due("below 0", Voice.of(house + "talk-hush-1;").place(0, 2), 0);
        due("0", Voice.of(house + "talk-hush;").place(0, 2), 0);
        due("1", Voice.of(house + "talk-hush+1;").place(0, 2), 1);
        due("20", Voice.of(house + "talk*4;").place(0, 2), 20);
        due("21", Voice.of(house + "talk*4+1;").place(0, 2), 20);
    }

    static void promise09_place_wouldTalkByTheNightNow() {
        Voice v = Voice.at("round 9;place p at 1 talk 5;talks night-990;", 999, 0, 0, 0, 0, 5);
        due("9", v.place(0, 2), 9);
    }

    // ---- promise 10: stride

    static void promise10_stride_withoutAHouse() {
        Voice v = new Voice();
        v.answersNone("stride", v::stride);
    }

    static void promise10_stride_withoutGoes() {
        due("1", Voice.of("round 9;").stride(), 1);
    }

    static void promise10_stride_cutAt0And99() {
        due("-1", Voice.of("round 9;goes 0-1;").stride(), 0);
        due("0", Voice.of("round 9;goes 0;").stride(), 0);
        due("99", Voice.of("round 9;goes 99;").stride(), 99);
        due("100", Voice.of("round 9;goes 100;").stride(), 99);
    }

    static void promise10_stride_byWhatIsNow() {
        Voice v = Voice.at("round 9;goes night-990+mile+hush+rounds-990;", 999, 8, 999, 20, 9);
        due("stride", v.stride(), 9 + 8 + 9 + 9);
    }

    static void promise10_stride_notShortenedByAPlaceOrByTalking() {
        Voice v = Voice.at("round 9;place p at 1 talk 3;goes 7;", 5, 0, 0, 3, 0, 3);
        due("stride", v.stride(), 7);
    }

    // ---- promise 23: nights

    static void promise23_nights_1IsTheLeast() {
        Voice v = Voice.of(Voice.HOME);
        due("HEARD", v.nights(1), 1);
        due("NIGHT", v.has(NIGHT), 1);
        due("one ACT", v.has(ACTS), 1);
        due("none refused", v.status(2), 0);
    }

    static void promise23_nights_0IsRefused() {
        Voice v = Voice.lived();
        v.refuses(2, "nights(0)", () -> v.nights(0));
    }

    static void promise23_nights_below0IsRefused() {
        Voice v = Voice.lived();
        v.refuses(2, "nights(-1)", () -> v.nights(-1));
        due("lowest", v.nights(LOW), -1);
        due("status", v.status(2), 3);
    }

    static void promise23_nights_60AreTheMost() {
        Voice v = keeping(0);
        due("HEARD", v.nights(60), 60);
        due("NIGHT", v.has(NIGHT), 60);
        due("one ACT", v.has(ACTS), 1);
    }

    static void promise23_nights_61AreRefused() {
        Voice v = Voice.lived();
        v.refuses(2, "nights(61)", () -> v.nights(61));
        due("highest", v.nights(HIGH), -1);
        due("status", v.status(2), 3);
    }

    static void promise23_nights_toNight999() {
        Voice v = Voice.at("round 9;", 939, 0, 0, 0, 0);
        due("60 from 939", v.nights(60), 0);
        due("NIGHT", v.has(NIGHT), 999);
        Voice w = Voice.at("round 9;", 998, 0, 0, 0, 0);
        due("1 from 998", w.nights(1), 0);
        due("NIGHT", w.has(NIGHT), 999);
    }

    static void promise23_nights_beyondNight999AreRefused() {
        Voice v = Voice.at(Voice.HOME, 940, 3, 2, 0, 3, 9, 1, 2, 0);
        v.refuses(2, "60 from 940", () -> v.nights(60));
        Voice w = Voice.at(Voice.HOME, 999, 3, 2, 0, 3, 9, 1, 2, 0);
        w.refuses(2, "1 from 999", () -> w.nights(1));
    }

    static void promise23_nights_withoutAHouseAreRefused() {
        Voice v = new Voice();
        v.refuses(2, "nights(1)", () -> v.nights(1));
    }

    static void promise23_nights_theSeedStays() {
        Voice v = Voice.of("round 9;cough 100;");
        v.seed(5);
        v.nights(60);
        due("the seed", v.has(SEED), 5);
    }

    static void promise23_nights_heardInNoneAndInAll() {
        due("none", Voice.of("round 9;ear a row 0 sharp 0;hears not all;").nights(60), 0);
        due("all", Voice.of("round 9;ear a row 0 sharp 0;ear b row 0 sharp 0;hears all;").nights(60), 60);
    }

    // ---- promise 24: chance

    static void promise24_chance_1IsTheLeast() {
        Voice v = Voice.of("round 9;cough 100;");
        due("coughs", v.chance(1), 1);
        due("NIGHT", v.has(NIGHT), 1);
        due("one ACT", v.has(ACTS), 1);
    }

    static void promise24_chance_0IsRefused() {
        Voice v = Voice.lived();
        v.refuses(2, "chance(0)", () -> v.chance(0));
    }

    static void promise24_chance_below0IsRefused() {
        Voice v = Voice.lived();
        v.refuses(2, "chance(-1)", () -> v.chance(-1));
        due("lowest", v.chance(LOW), -1);
    }

    static void promise24_chance_60AreTheMost() {
        Voice v = Voice.of("round 9;cough 100;");
        due("coughs", v.chance(60), 60);
        due("NIGHT", v.has(NIGHT), 60);
        due("one ACT", v.has(ACTS), 1);
    }

    static void promise24_chance_61AreRefused() {
        Voice v = Voice.lived();
        v.refuses(2, "chance(61)", () -> v.chance(61));
        due("highest", v.chance(HIGH), -1);
    }

    static void promise24_chance_toNight999() {
        Voice v = Voice.at("round 9;cough 100;", 939, 0, 0, 0, 0);
        due("60 from 939", v.chance(60), 60);
        due("NIGHT", v.has(NIGHT), 999);
        Voice w = Voice.at("round 9;cough 100;", 998, 0, 0, 0, 0);
        due("1 from 998", w.chance(1), 1);
        due("NIGHT", w.has(NIGHT), 999);
    }

    static void promise24_chance_beyondNight999AreRefused() {
        Voice v = Voice.at(Voice.HOME, 940, 3, 2, 0, 3, 9, 1, 2, 0);
        v.refuses(2, "60 from 940", () -> v.chance(60));
        Voice w = Voice.at(Voice.HOME, 999, 3, 2, 0, 3, 9, 1, 2, 0);
        w.refuses(2, "1 from 999", () -> w.chance(1));
    }

    static void promise24_chance_withoutAHouseIsRefused() {
        Voice v = new Voice();
        v.refuses(2, "chance(1)", () -> v.chance(1));
    }

    static void promise24_chance_isKept() {
        Voice v = Voice.of("round 9;cough 50;ear a row 0 sharp 0;hears all;");
        v.chance(5);
        due("KEPT", v.has(KEPT), 5);
        due("the oldest", v.kept(0, 0), 0);
        due("the latest", v.kept(4, 0), 4);
    }

    // ---- promise 25: hush

    static void promise25_hush_0And9AreTheEdges() {
        Voice v = Voice.of("round 9;hush 5;");
        due("9", v.hush(9), true);
        due("9", v.has(HUSH), 9);
        due("0", v.hush(0), true);
        due("0", v.has(HUSH), 0);
        due("none refused", v.status(3), 0);
        due("ACTS", v.has(ACTS), 2);
    }

    static void promise25_hush_10AndMinus1AreRefused() {
        Voice v = Voice.lived();
        v.refuses(3, "hush(10)", () -> v.hush(10));
        v.refuses(3, "hush(-1)", () -> v.hush(-1));
    }

    static void promise25_hush_lowestAndHighestAreRefused() {
        Voice v = Voice.of("round 9;");
        due("lowest", v.hush(LOW), false);
        due("highest", v.hush(HIGH), false);
        due("refused", v.status(3), 2);
    }

    static void promise25_hush_whenItIsThatIsRefused() {
        Voice v = Voice.lived();
        v.refuses(3, "hush(8)", () -> v.hush(8));
        Voice w = Voice.of("round 9;");
        w.refuses(3, "hush(0)", () -> w.hush(0));
    }

    static void promise25_hush_withoutAHouseIsRefused() {
        Voice v = new Voice();
        v.refuses(3, "hush(1)", () -> v.hush(1));
        v.refuses(3, "hush(0)", () -> v.hush(0));
    }

    static void promise25_hush_atNight999() {
        Voice v = Voice.at("round 9;", 999, 0, 999, 0, 0);
        due("hush", v.hush(1), true);
    }

    // ---- promise 26: sit

    static void promise26_sit_0And9AreTheEdges() {
        Voice v = Voice.of("round 9;ear a row 5 sharp 5;ear b row 5 sharp 5;");
        due("9", v.sit(1, 9), true);
        due("9", v.ear(1, 0), 9);
        due("0", v.sit(1, 0), true);
        due("0", v.ear(1, 0), 0);
        due("the other stays", v.ear(0, 0), 5);
        due("none refused", v.status(3), 0);
        due("ACTS", v.has(ACTS), 2);
    }

    static void promise26_sit_10AndMinus1AreRefused() {
        Voice v = Voice.lived();
        v.refuses(3, "sit(1, 10)", () -> v.sit(1, 10));
        v.refuses(3, "sit(1, -1)", () -> v.sit(1, -1));
    }

    static void promise26_sit_whenItHasThatIsRefused() {
        Voice v = Voice.lived();
        v.refuses(3, "sit(0, 9)", () -> v.sit(0, 9));
        v.refuses(3, "sit(1, 2)", () -> v.sit(1, 2));
    }

    static void promise26_sit_whereAnotherSitsMayBe() {
        Voice v = Voice.of("round 9;ear a row 5 sharp 5;ear b row 6 sharp 5;");
        due("sit", v.sit(0, 6), true);
        due("row", v.ear(0, 0), 6);
    }

    static void promise26_sit_ofNoneSuchIsRefused() {
        Voice v = Voice.lived();
        v.refuses(3, "EAR 2", () -> v.sit(2, 1));
        v.refuses(3, "EAR -1", () -> v.sit(-1, 1));
    }

    static void promise26_sit_lowestAndHighestAreRefused() {
        Voice v = Voice.of(Voice.HOME);
        due("EAR", v.sit(LOW, 1), false);
        due("EAR", v.sit(HIGH, 1), false);
        due("row", v.sit(0, LOW), false);
        due("row", v.sit(0, HIGH), false);
        due("refused", v.status(3), 4);
    }

    static void promise26_sit_withoutAHouseIsRefused() {
        Voice v = new Voice();
        v.refuses(3, "sit(0, 1)", () -> v.sit(0, 1));
    }

    // ---- promise 27: please

    static void promise27_please_0And9AreTheEdges() {
        Voice v = Voice.of("round 9;place p at 1 talk 5;place q at 2 talk 5;");
        due("9", v.please(1, 9), true);
        due("9", v.place(1, 1), 9);
        due("0", v.please(1, 0), true);
        due("0", v.place(1, 1), 0);
        due("the other stays", v.place(0, 1), 5);
        due("none refused", v.status(3), 0);
        due("ACTS", v.has(ACTS), 2);
    }

    static void promise27_please_10AndMinus1AreRefused() {
        Voice v = Voice.lived();
        v.refuses(3, "please(1, 10)", () -> v.please(1, 10));
        v.refuses(3, "please(1, -1)", () -> v.please(1, -1));
    }

    static void promise27_please_whenItDoesIsRefused() {
        Voice v = Voice.lived();
        v.refuses(3, "please(0, 2)", () -> v.please(0, 2));
        v.refuses(3, "please(1, 1)", () -> v.please(1, 1));
    }

    static void promise27_please_ofNoneSuchIsRefused() {
        Voice v = Voice.lived();
        v.refuses(3, "PLACE 2", () -> v.please(2, 1));
        v.refuses(3, "PLACE -1", () -> v.please(-1, 1));
    }

    static void promise27_please_lowestAndHighestAreRefused() {
        Voice v = Voice.of(Voice.HOME);
        due("PLACE", v.please(LOW, 1), false);
        due("PLACE", v.please(HIGH, 1), false);
        due("talk", v.please(0, LOW), false);
        due("talk", v.please(0, HIGH), false);
        due("refused", v.status(3), 4);
    }

    static void promise27_please_withoutAHouseIsRefused() {
        Voice v = new Voice();
        v.refuses(3, "please(0, 1)", () -> v.please(0, 1));
    }

    static void promise27_please_whileItTalksThereItTalksOn() {
        Voice v = Voice.of("round 9;place p at 1 talk 5;");
        v.nights(1);
        v.please(0, 0);
        due("talking", v.has(TALKING), 5);
    }

    // ---- promise 28: undo

    static void promise28_undo_whenNoneCanBeIsRefused() {
        Voice v = Voice.of(Voice.HOME);
        v.refuses(4, "undo()", v::undo);
    }

    static void promise28_undo_withoutAHouseIsRefused() {
        Voice v = new Voice();
        v.refuses(4, "undo()", v::undo);
    }

    static void promise28_undo_oneMoreThanTheActsIsRefused() {
        Voice v = Voice.of(Voice.HOME);
        v.nights(1);
        due("undo", v.undo(), true);
        v.refuses(4, "undo()", v::undo);
    }

    /** ahead of an ACT, and behind it and its undo(): all but the seed. */
    private static void undone(String call, Voice v, Runnable act) {
        Map<String, Integer> ahead = v.seen();
        act.run();
        due(call + " is one ACT more", v.has(ACTS), ahead.get("has " + ACTS) + 1);
        int seed = v.has(SEED);
        due("undo of " + call, v.undo(), true);
        ahead.put("has " + SEED, seed);
        Voice.same("undo of " + call, v.seen(), ahead);
    }

    static void promise28_undo_nights() {
        Voice v = Voice.lived();
        undone("nights(60)", v, () -> v.nights(60));
    }

    static void promise28_undo_chanceButTheSeed() {
        Voice v = Voice.lived();
        int seed = v.has(SEED);
        undone("chance(9)", v, () -> v.chance(9));
        due("the seed is another", v.has(SEED) != seed, true);
    }

    static void promise28_undo_hush() {
        Voice v = Voice.lived();
        undone("hush(0)", v, () -> v.hush(0));
    }

    static void promise28_undo_sit() {
        Voice v = Voice.lived();
        undone("sit(1, 9)", v, () -> v.sit(1, 9));
    }

    static void promise28_undo_please() {
        Voice v = Voice.lived();
        undone("please(0, 9)", v, () -> v.please(0, 9));
    }

    static void promise28_undo_whatWasKeptIsToldAgain() {
        Voice v = keeping(41);
        v.nights(60);
        due("the oldest", v.kept(0, 0), 61);
        v.undo();
        due("told", v.has(KEPT), 40);
        due("the oldest", v.kept(0, 0), 1);
        due("the latest", v.kept(39, 0), 40);
    }

    static void promise28_undo_thenOtherNightsAreKept() {
        Voice v = Voice.of("round 200;ear a row 0 sharp 0;hears all;goes 1+hush;");
        v.nights(5);
        v.undo();
        v.hush(9);
        v.nights(3);
        due("told", v.has(KEPT), 3);
        due("MILE", v.kept(0, 1), 10);
        due("MILE", v.kept(2, 1), 30);
        due("none such", v.kept(3, 0), -1);
    }

    static void promise28_undo_the20thButNotThe21st() {
        Voice v = acting(21);
        for (int i = 0; i < 19; i++) {
            v.undo();
        }
        due("the 20th", v.undo(), true);
        v.refuses(4, "the 21st", v::undo);
    }

    static void promise28_undo_aRefusedCallIsNoAct() {
        Voice v = Voice.of(Voice.HOME);
        v.hush(5);
        v.hush(5);
        v.nights(0);
        v.sit(7, 0);
        due("undo", v.undo(), true);
        due("hush", v.has(HUSH), 3);
        due("no more", v.undo(), false);
    }

    static void promise28_undo_noneBehindHouseOrOn() {
        Voice v = Voice.lived();
        v.tell(Voice.HOME);
        v.refuses(4, "undo() behind house()", v::undo);
        Voice w = Voice.lived();
        due("on", w.image(1, 2, 3, 4, 5, 6, 7, 8, 9), true);
        w.refuses(4, "undo() behind on()", w::undo);
    }

    // ---- promise 29: seed

    static void promise29_seed_0IsTheLeast() {
        Voice v = new Voice();
        due("seed", v.seed(0), true);
        due("has", v.has(SEED), 0);
        due("none refused", v.status(5), 0);
    }

    static void promise29_seed_theHighest() {
        Voice v = new Voice();
        due("seed", v.seed(HIGH), true);
        due("has", v.has(SEED), HIGH);
    }

    static void promise29_seed_below0IsRefused() {
        Voice v = Voice.lived();
        v.refuses(5, "seed(-1)", () -> v.seed(-1));
        v.refuses(5, "seed(lowest)", () -> v.seed(LOW));
    }

    static void promise29_seed_theSameAgainIsNotRefused() {
        Voice v = new Voice();
        due("seed", v.seed(1), true);
        due("again", v.seed(1), true);
        due("none refused", v.status(5), 0);
    }

    static void promise29_seed_noUndoOfIt() {
        Voice v = Voice.of("round 9;");
        v.hush(5);
        v.seed(99);
        v.undo();
        due("the seed", v.has(SEED), 99);
    }

    // ---- promise 30: kept

    static void promise30_kept_ofNoneSuch() {
        Voice v = Voice.lived();
        int told = v.has(KEPT);
        due("some are told", told > 0, true);
        v.answersNone("the one behind the last", () -> v.kept(told, 0));
        v.answersNone("-1", () -> v.kept(-1, 0));
        due("the last", v.kept(told - 1, 0) >= 0, true);
        due("lowest", v.kept(LOW, 0), -1);
        due("highest", v.kept(HIGH, 0), -1);
    }

    static void promise30_kept_the40thAndThe41st() {
        Voice v = keeping(60);
        due("the 40th", v.kept(39, 0), 59);
        due("the 41st", v.kept(40, 0), -1);
    }

    static void promise30_kept_othersAreNone() {
        Voice v = Voice.lived();
        v.answersNone("what 3", () -> v.kept(0, 3));
        v.answersNone("what -1", () -> v.kept(0, -1));
    }

    static void promise30_kept_nothingKeptOrWithoutAHouse() {
        due("nothing KEPT", Voice.of("round 9;").kept(0, 0), -1);
        due("without a house", new Voice().kept(0, 0), -1);
    }

    static void promise30_kept_theLastNightAndMileAndAllEars() {
        Voice v = Voice.of("round 200;voice 199;ear a row 0 sharp 0;ear b row 0 sharp 0;ear c row 0 sharp 0;ear d row 0 sharp 0;"
                + "ear e row 0 sharp 0;ear f row 0 sharp 0;ear g row 0 sharp 0;goes 0;hears all;");
        due("on", v.image(998, 199, 0, 0, 0, 0, 0, 0, 0, 0, 0, 0), true);
        v.nights(1);
        due("NIGHT", v.kept(0, 0), 998);
        due("MILE", v.kept(0, 1), 199);
        due("EARS", v.kept(0, 2), 127);
    }

    static void promise30_kept_nothingBehindOn() {
        Voice v = Voice.lived();
        due("on", v.image(1, 2, 3, 4, 5, 6, 7, 8, 9), true);
        due("told", v.has(KEPT), 0);
        due("kept", v.kept(0, 0), -1);
    }

    static void promise30_kept_marksAreNoKeptRows() {
        Voice v = Voice.of(Voice.HOME);
        v.rows(0, 0, 1);
        due("MARKED", v.has(MARKED), 1);
        due("kept", v.kept(0, 0), -1);
    }

    public static void main(String[] args) throws IllegalAccessException {
        Edges.run(EdgesNightTest.class);
    }
}
