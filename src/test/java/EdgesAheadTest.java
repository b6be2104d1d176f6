/** Boundary cases of what is asked of NIGHTS AHEAD: terms III but for MARKED, TELLING and AN IMAGE; promises 11 to 19. */
public final class EdgesAheadTest {
    private static final int LOW = Integer.MIN_VALUE;
    private static final int HIGH = Integer.MAX_VALUE;
    /** One EAR that hears in every NIGHT. */
    private static final String EVER = "round 200;ear a row 0 sharp 0;hears all;";
    /** One EAR that hears in NIGHT 39 alone, with a hush of 5 at least. */
    private static final String IN_NIGHT_39 = "round 200;hush 5;ear a row 0 sharp 0;hears night=39 and hush>4;";

    private EdgesAheadTest() {
    }

    private static void due(String what, long got, long want) {
        Check.due(what, got, want);
    }

    private static Voice ever(int night) {
        return Voice.at(EVER, night, 0, 0, 0, 0, 0);
    }

    private static String ears(int count) {
        StringBuilder b = new StringBuilder();
        for (int i = 0; i < count; i++) {
            b.append("ear ").append((char) ('a' + i)).append(" row 0 sharp ").append(i).append(";");
        }
        return b.toString();
    }

    // ---- terms III: AHEAD

    static void term3_ahead_withoutDraws() {
        Voice v = Voice.of("round 200;cough 100;hush 2;ear a row 0 sharp 0;goes hush;hears hush=2;");
        due("MILE", v.later(60, 0), 120);
        due("often", v.often(0, 60), 60);
        due("the seed stays", v.has(12), 1);
    }

    static void term3_ahead_60ToNight999() {
        due("from 939", ever(939).later(60, 0), 60);
        due("from 940", ever(940).later(60, 0), -1);
        due("59 from 940", ever(940).later(59, 0), 59);
    }

    static void term3_ahead_noneFromNight999() {
        due("0", ever(999).later(0, 0), 0);
        due("1", ever(999).later(1, 0), -1);
        due("1 from 998", ever(998).later(1, 0), 1);
        due("2 from 998", ever(998).later(2, 0), -1);
    }

    static void term3_ahead_nothingIsKept() {
        Voice v = Voice.of(EVER);
        v.answers("often", 60, () -> v.often(0, 60));
        due("KEPT", v.has(9), 0);
        due("NIGHT", v.has(3), 0);
    }

    // ---- promise 11: later

    static void promise11_later_0IsNow() {
        Voice v = Voice.at("round 9;", 5, 7, 300, 20, 0);
        due("MILE", v.later(0, 0), 7);
        due("times round", v.later(0, 1), 300);
        due("talking", v.later(0, 2), 20);
    }

    static void promise11_later_60AreTheMost() {
        Voice v = Voice.lived();
        int mile = v.later(60, 0);
        v.answers("60", mile, () -> v.later(60, 0));
        due("MILE", Voice.of("round 200;").later(60, 0), 60);
        due("times round", Voice.of("round 5;").later(60, 1), 12);
        due("talking", Voice.at("round 5;place p at 1 talk 9;", 0, 0, 0, 20, 0, 9).later(21, 2), 9);
    }

    static void promise11_later_61AndMinus1AreNone() {
        Voice v = Voice.lived();
        v.answersNone("61", () -> v.later(61, 0));
        v.answersNone("-1", () -> v.later(-1, 0));
        due("lowest", v.later(LOW, 0), -1);
        due("highest", v.later(HIGH, 0), -1);
    }

    static void promise11_later_othersAreNone() {
        Voice v = Voice.lived();
        v.answersNone("what 3", () -> v.later(1, 3));
        v.answersNone("what -1", () -> v.later(1, -1));
        due("what 3 of 0 NIGHTS", v.later(0, 3), -1);
    }

    static void promise11_later_withoutAHouse() {
        Voice v = new Voice();
        v.answersNone("0", () -> v.later(0, 0));
    }

    static void promise11_later_beyondNight999IsNone() {
        due("the talking too", ever(999).later(1, 2), -1);
        due("the rounds too", ever(960).later(40, 1), -1);
        due("39 from 960", ever(960).later(39, 1), 0);
    }

    static void promise11_later_999TimesAtMost() {
        Voice v = Voice.at("round 5;goes 99;", 0, 0, 990, 0, 0);
        due("1", v.later(1, 1), 999);
        due("60", v.later(60, 1), 999);
    }

    // ---- promise 12: round

    static void promise12_round_0TimesIsNow() {
        due("0", Voice.of("round 9;").round(0), 0);
        due("0 at NIGHT 999", ever(999).round(0), 0);
    }

    static void promise12_round_asOftenAsItHasBeenIsNow() {
        Voice v = Voice.at("round 200;", 5, 0, 7, 0, 0);
        due("7", v.round(7), 0);
        due("6", v.round(6), 0);
        due("8", v.round(8), -1);
    }

    static void promise12_round_behind60Nights() {
        due("round 60", Voice.of("round 60;").round(1), 60);
        due("round 61", Voice.of("round 61;").round(1), -1);
        due("round 61 from MILE 1", Voice.of("round 61;voice 1;").round(1), 60);
    }

    static void promise12_round_notBeyondNight999() {
        due("60 from 939", Voice.at("round 60;", 939, 0, 0, 0, 0).round(1), 60);
        due("60 from 940", Voice.at("round 60;", 940, 0, 0, 0, 0).round(1), -1);
        due("59 from 940", Voice.at("round 60;", 940, 1, 0, 0, 0).round(1), 59);
        due("1 from 999", Voice.at("round 60;", 999, 59, 0, 0, 0).round(1), -1);
        due("1 from 998", Voice.at("round 60;", 998, 59, 0, 0, 0).round(1), 1);
    }

    static void promise12_round_999IsTheMost() {
        due("now", Voice.at("round 9;", 0, 0, 999, 0, 0).round(999), 0);
        due("in a NIGHT", Voice.at("round 9;", 0, 8, 998, 0, 0).round(999), 1);
        due("not in 60", Voice.at("round 200;", 0, 0, 998, 0, 0).round(999), -1);
    }

    static void promise12_round_1000AndMinus1AreNone() {
        Voice v = Voice.lived();
        v.answersNone("1000", () -> v.round(1000));
        v.answersNone("-1", () -> v.round(-1));
        due("1000 with 999", Voice.at("round 5;goes 99;", 0, 0, 999, 0, 0).round(1000), -1);
        due("lowest", v.round(LOW), -1);
        due("highest", v.round(HIGH), -1);
    }

    static void promise12_round_withoutAHouse() {
        Voice v = new Voice();
        v.answersNone("0", () -> v.round(0));
    }

    static void promise12_round_moreThanSoManyTimesAtOnce() {
        Voice v = Voice.of("round 5;goes 99;");
        due("19", v.round(19), 1);
        due("20", v.round(20), 2);
        due("39", v.round(39), 2);
        due("40", v.round(40), 3);
    }

    // ---- promise 13: heard

    static void promise13_heard_0IsTheNextNight() {
        due("NIGHT 0", Voice.of("round 9;ear a row 0 sharp 0;hears night=0;").heard(0), 1);
        due("NIGHT 1", Voice.of("round 9;ear a row 0 sharp 0;hears night=0;").heard(1), 0);
    }

    static void promise13_heard_59IsTheLast() {
        due("NIGHT 59", Voice.of("round 9;ear a row 0 sharp 0;hears night=59;").heard(59), 1);
        due("NIGHT 58", Voice.of("round 9;ear a row 0 sharp 0;hears night=59;").heard(58), 0);
    }

    static void promise13_heard_60AndMinus1AreNone() {
        Voice v = Voice.lived();
        v.answersNone("60", () -> v.heard(60));
        v.answersNone("-1", () -> v.heard(-1));
        due("lowest", v.heard(LOW), -1);
        due("highest", v.heard(HIGH), -1);
    }

    static void promise13_heard_notBeyondNight999() {
        due("59 from 939", ever(939).heard(59), 1);
        due("59 from 940", ever(940).heard(59), -1);
        due("58 from 940", ever(940).heard(58), 1);
        due("0 from 998", ever(998).heard(0), 1);
        due("1 from 998", ever(998).heard(1), -1);
        due("0 from 999", ever(999).heard(0), -1);
    }

    static void promise13_heard_withoutAHouse() {
        Voice v = new Voice();
        v.answersNone("0", () -> v.heard(0));
    }

    static void promise13_heard_byNoneAndByAll() {
        due("no EARS", Voice.of("round 9;").heard(0), 0);
        due("none", Voice.of("round 9;" + ears(7) + "hears not all;").heard(0), 0);
        due("all", Voice.of("round 9;" + ears(7) + "hears all;").heard(0), 127);
        due("the last", Voice.of("round 9;" + ears(7) + "hears sharp=6;").heard(0), 64);
    }

    // ---- promise 14: often

    static void promise14_often_0And60AreTheEdges() {
        Voice v = Voice.of(EVER);
        due("0", v.often(0, 0), 0);
        due("1", v.often(0, 1), 1);
        due("60", v.often(0, 60), 60);
    }

    static void promise14_often_61AndMinus1AreNone() {
        Voice v = Voice.lived();
        v.answersNone("61", () -> v.often(0, 61));
        v.answersNone("-1", () -> v.often(0, -1));
        due("lowest", v.often(0, LOW), -1);
        due("highest", v.often(0, HIGH), -1);
    }

    static void promise14_often_ofNoneSuch() {
        Voice v = Voice.lived();
        v.answersNone("EAR 2", () -> v.often(2, 1));
        v.answersNone("EAR -1", () -> v.often(-1, 1));
        due("no EARS", Voice.of("round 9;").often(0, 0), -1);
        due("no house", new Voice().often(0, 0), -1);
        due("EAR 6", Voice.of("round 9;" + ears(7) + "hears sharp=6;").often(6, 5), 5);
        due("EAR 7", Voice.of("round 9;" + ears(7)).often(7, 5), -1);
    }

    static void promise14_often_notBeyondNight999() {
        due("60 from 939", ever(939).often(0, 60), 60);
        due("60 from 940", ever(940).often(0, 60), -1);
        due("59 from 940", ever(940).often(0, 59), 59);
        due("0 from 999", ever(999).often(0, 0), 0);
        due("1 from 999", ever(999).often(0, 1), -1);
    }

    static void promise14_often_theLastNightCounts() {
        due("40", Voice.of(IN_NIGHT_39).often(0, 40), 1);
        due("39", Voice.of(IN_NIGHT_39).often(0, 39), 0);
    }

    static void promise14_often_fewerNightsAskedBehindMore() {
        Voice v = Voice.of(IN_NIGHT_39);
        due("60", v.often(0, 60), 1);
        due("39", v.often(0, 39), 0);
        due("40", v.often(0, 40), 1);
        due("0", Voice.of(EVER).often(0, 0), 0);
    }

    // ---- terms III and promise 15: a HUSH

    static void promise15_quiet_0And9AreTheEdges() {
        due("0", Voice.of("round 9;hush 9;ear a row 0 sharp 0;hears all;").quiet(0, 1), 0);
        due("9", Voice.of("round 9;ear a row 0 sharp 0;hears hush>8;").quiet(0, 1), 9);
    }

    static void promise15_quiet_withoutOneIsNone() {
        Voice v = Voice.of("round 9;hush 9;ear a row 0 sharp 0;hears hush>9;");
        v.answersNone("none", () -> v.quiet(0, 40));
    }

    static void promise15_quiet_theLeastOfSome() {
        due("3 or 7", Voice.of("round 9;ear a row 0 sharp 0;hears hush=7 or hush=3;").quiet(0, 1), 3);
    }

    static void promise15_quiet_inOneOfTheNightsIsEnough() {
        due("40", Voice.of(IN_NIGHT_39).quiet(0, 40), 5);
        due("39", Voice.of(IN_NIGHT_39).quiet(0, 39), -1);
    }

    static void promise15_quiet_fewerNightsAskedBehindMore() {
        Voice v = Voice.of(IN_NIGHT_39);
        due("40", v.quiet(0, 40), 5);
        due("heard behind it", v.often(0, 60), 1);
        due("39", v.quiet(0, 39), -1);
    }

    static void promise15_quiet_beingKeptWhileItGoesOn() {
        Voice v = Voice.of("round 200;ear a row 0 sharp 0;goes hush;hears far=4;");
        due("1", v.quiet(0, 1), 4);
        due("2", v.quiet(0, 2), 2);
        due("3", v.quiet(0, 3), 2);
        due("4", v.quiet(0, 4), 1);
    }

    static void promise15_quiet_1And40AreTheEdges() {
        Voice v = Voice.of(EVER);
        due("1", v.quiet(0, 1), 0);
        due("40", v.quiet(0, 40), 0);
    }

    static void promise15_quiet_0And41AreNone() {
        Voice v = Voice.lived();
        v.answersNone("0", () -> v.quiet(0, 0));
        v.answersNone("41", () -> v.quiet(0, 41));
        due("-1", v.quiet(0, -1), -1);
        due("lowest", v.quiet(0, LOW), -1);
        due("highest", v.quiet(0, HIGH), -1);
    }

    static void promise15_quiet_ofNoneSuch() {
        Voice v = Voice.lived();
        v.answersNone("EAR 2", () -> v.quiet(2, 1));
        v.answersNone("EAR -1", () -> v.quiet(-1, 1));
        due("no EARS", Voice.of("round 9;").quiet(0, 1), -1);
        due("no house", new Voice().quiet(0, 1), -1);
    }

    static void promise15_quiet_notBeyondNight999() {
        due("40 from 959", ever(959).quiet(0, 40), 0);
        due("40 from 960", ever(960).quiet(0, 40), -1);
        due("39 from 960", ever(960).quiet(0, 39), 0);
        due("1 from 998", ever(998).quiet(0, 1), 0);
        due("1 from 999", ever(999).quiet(0, 1), -1);
    }

    static void promise15_quiet_theHushStays() {
        Voice v = Voice.of("round 9;hush 4;ear a row 0 sharp 0;hears hush>8;");
        v.answers("9", 9, () -> v.quiet(0, 1));
    }

    // ---- terms III and promise 16: SEATS

    static void promise16_seats_1And40AreTheEdges() {
        due("1", Voice.of(EVER).seats(1, -1), 1);
        due("40", Voice.of(EVER).seats(40, -1), 40);
    }

    static void promise16_seats_0And41AreNone() {
        Voice v = Voice.lived();
        v.answersNone("0", () -> v.seats(0, -1));
        v.answersNone("41", () -> v.seats(41, -1));
        due("-1", v.seats(-1, 0), -1);
        due("lowest", v.seats(LOW, 0), -1);
        due("highest", v.seats(HIGH, 0), -1);
    }

    static void promise16_seats_ofNoneSuch() {
        Voice v = Voice.lived();
        v.answersNone("EAR 2", () -> v.seats(1, 2));
        v.answersNone("EAR -2", () -> v.seats(1, -2));
        due("lowest", v.seats(1, LOW), -1);
        due("highest", v.seats(1, HIGH), -1);
    }

    static void promise16_seats_withoutAHouse() {
        Voice v = new Voice();
        v.answersNone("together", () -> v.seats(1, -1));
        due("an EAR", v.seats(1, 0), -1);
    }

    static void promise16_seats_withoutEars() {
        Voice v = Voice.of("round 9;");
        due("together", v.seats(1, -1), 0);
        due("EAR 0", v.seats(1, 0), -1);
    }

    static void promise16_seats_notBeyondNight999() {
        due("40 from 959", ever(959).seats(40, -1), 40);
        due("40 from 960", ever(960).seats(40, -1), -1);
        due("39 from 960", ever(960).seats(39, -1), 39);
        due("1 from 998", ever(998).seats(1, 0), 0);
        due("1 from 999", ever(999).seats(1, 0), -1);
    }

    static void promise16_seats_noTwoTheSame() {
        Voice v = Voice.of("round 9;ear a row 4 sharp 0;ear b row 4 sharp 0;hears row=4;");
        due("together", v.seats(3, -1), 3);
        due("the first row of like ones", v.seats(3, 0), 0);
        due("the other one has it", v.seats(3, 1), 4);
    }

    static void promise16_seats_ofLikeOnesTheFirst() {
        Voice v = Voice.of("round 9;ear a row 9 sharp 0;ear b row 9 sharp 0;ear c row 9 sharp 0;hears all;");
        for (int ear = 0; ear < 3; ear++) {
            due("EAR " + ear, v.seats(3, ear), ear);
        }
        Voice w = Voice.of("round 9;ear a row 9 sharp 0;ear b row 9 sharp 0;hears not all;");
        due("nobody hears", w.seats(40, -1), 0);
        due("EAR 0", w.seats(40, 0), 0);
        due("EAR 1", w.seats(40, 1), 1);
    }

    static void promise16_seats_theMostNotTheFirstEarsBest() {
        // EAR a hears in row 0 in 3 NIGHTS, in row 1 in 2; EAR b in row 0 in 3 alone.
        Voice v = Voice.of("round 9;ear a row 5 sharp 0;ear b row 5 sharp 1;"
                + "hears row=0 and night<3 or row=1 and night<2 and sharp=0;");
        due("together", v.seats(3, -1), 5);
        due("EAR a", v.seats(3, 0), 1);
        due("EAR b", v.seats(3, 1), 0);
    }

    static void promise16_seats_row9IsTheLast() {
        Voice v = Voice.of("round 9;ear a row 0 sharp 0;hears row=9;");
        due("row", v.seats(1, 0), 9);
        due("no row 10", Voice.of("round 9;ear a row 0 sharp 0;hears row>9;").seats(1, -1), 0);
    }

    static void promise16_seats_7Ears() {
        Voice v = Voice.of("round 9;" + ears(7) + "hears row=9-sharp;");
        due("together", v.seats(40, -1), 280);
        for (int ear = 0; ear < 7; ear++) {
            due("EAR " + ear, v.seats(40, ear), 9 - ear);
        }
        due("EAR 7", v.seats(40, 7), -1);
        Voice w = Voice.of("round 9;" + ears(7) + "hears all;");
        due("the last one of like ones", w.seats(40, 6), 6);
    }

    static void promise16_seats_theLastNightCounts() {
        Voice v = Voice.of("round 9;ear a row 0 sharp 0;hears row=5 and night=39;");
        due("40 together", v.seats(40, -1), 1);
        due("40", v.seats(40, 0), 5);
        due("39 together", v.seats(39, -1), 0);
        due("39", v.seats(39, 0), 0);
    }

    static void promise16_seats_byWhereItIsThen() {
        Voice v = Voice.of("round 9;ear a row 0 sharp 0;hears far=row;");
        due("1 together", v.seats(1, -1), 1);
        due("MILE 1", v.seats(1, 0), 1);
        // at MILES 1, 2, 3, 4, 5, 6: far 1, 2, 3, 4, 4, 3
        due("4 together", v.seats(4, -1), 1);
        due("4", v.seats(4, 0), 1);
        due("5 together", v.seats(5, -1), 2);
        due("5", v.seats(5, 0), 4);
        due("6", v.seats(6, 0), 3);
    }

    static void promise16_seats_fewerNightsAskedBehindMore() {
        Voice v = Voice.of("round 9;ear a row 0 sharp 0;hears row=5 and night>2;");
        due("40", v.seats(40, -1), 37);
        due("3", v.seats(3, -1), 0);
        due("3", v.seats(3, 0), 0);
    }

    static void promise16_seats_theRowsStay() {
        Voice v = Voice.of("round 9;ear a row 3 sharp 0;hears row=5;");
        v.answers("row 5", 5, () -> v.seats(1, 0));
        due("row", v.ear(0, 0), 3);
    }

    // ---- terms III and promise 17: a WATCH

    static void promise17_watch_1And40AreTheEdges() {
        due("1", Voice.of(EVER).watch(1), 1);
        due("40", Voice.of(EVER).watch(40), 1);
    }

    static void promise17_watch_0And41AreNone() {
        Voice v = Voice.lived();
        v.answersNone("0", () -> v.watch(0));
        v.answersNone("41", () -> v.watch(41));
        due("-1", v.watch(-1), -1);
        due("lowest", v.watch(LOW), -1);
        due("highest", v.watch(HIGH), -1);
    }

    static void promise17_watch_withoutAHouse() {
        Voice v = new Voice();
        v.answersNone("1", () -> v.watch(1));
    }

    static void promise17_watch_notBeyondNight999() {
        due("40 from 959", ever(959).watch(40), 1);
        due("40 from 960", ever(960).watch(40), -1);
        due("39 from 960", ever(960).watch(39), 1);
        due("1 from 998", ever(998).watch(1), 1);
        due("1 from 999", ever(999).watch(1), -1);
    }

    static void promise17_watch_nobodyWhereNothingIsHeard() {
        due("nothing", Voice.of("round 9;" + ears(7) + "hears not all;").watch(40), 0);
        due("no EARS", Voice.of("round 9;").watch(40), 0);
    }

    static void promise17_watch_allSevenAreNeeded() {
        Voice v = Voice.of("round 9;" + ears(7) + "hears night=sharp;");
        due("7 NIGHTS", v.watch(7), 127);
        due("6 NIGHTS", v.watch(6), 63);
        due("1 NIGHT", v.watch(1), 1);
    }

    static void promise17_watch_theFewestNotTheLeastBits() {
        due("c alone", Voice.of("round 9;ear a row 0 sharp 0;ear b row 0 sharp 1;ear c row 9 sharp 9;hears night=sharp or row=9;")
                .watch(2), 4);
    }

    static void promise17_watch_ofLikeOnesTheLeastBits() {
        due("one of all", Voice.of("round 9;" + ears(7) + "hears all;").watch(40), 1);
        // NIGHT 0: a b, NIGHT 1: c d
        due("a and c", Voice.of("round 9;ear a row 0 sharp 0;ear b row 1 sharp 0;ear c row 2 sharp 1;ear d row 3 sharp 1;"
                + "hears night=sharp;").watch(2), 5);
    }

    static void promise17_watch_theLastNightCounts() {
        due("40", Voice.of(IN_NIGHT_39).watch(40), 1);
        due("39", Voice.of(IN_NIGHT_39).watch(39), 0);
    }

    static void promise17_watch_fewerNightsAskedBehindMore() {
        Voice v = Voice.of(IN_NIGHT_39);
        due("40", v.watch(40), 1);
        due("39", v.watch(39), 0);
    }

    // ---- terms III and promise 18: to SILENCE

    /** Six PLACES side by side, one NIGHT of talk at each: 7 NIGHTS on the way, 6 of talk. */
    private static String sixPlaces() {
        StringBuilder b = new StringBuilder("round 9;goes 9;");
        for (int i = 0; i < 6; i++) {
            b.append("place ").append((char) ('p' + i)).append(" at ").append(i + 1).append(" talk 1;");
        }
        return b.toString();
    }

    static void promise18_silence_1And40AreTheEdges() {
        due("1", Voice.of("round 9;voice 8;").silence(1), 0);
        due("40", Voice.of("round 40;").silence(40), 0);
        due("39", Voice.of("round 40;").silence(39), -1);
    }

    static void promise18_silence_0And41AreNone() {
        Voice v = Voice.of("round 5;goes 99;");
        v.answersNone("0", () -> v.silence(0));
        v.answersNone("41", () -> v.silence(41));
        due("-1", v.silence(-1), -1);
        due("lowest", v.silence(LOW), -1);
        due("highest", v.silence(HIGH), -1);
    }

    static void promise18_silence_withoutAHouse() {
        Voice v = new Voice();
        v.answersNone("1", () -> v.silence(1));
    }

    static void promise18_silence_noneAllAndNotEnough() {
        Voice v = Voice.of(sixPlaces());
        due("13 NIGHTS", v.silence(13), 0);
        due("12 NIGHTS", v.silence(12), 1);
        due("11 NIGHTS", v.silence(11), 3);
        due("8 NIGHTS", v.silence(8), 31);
        due("7 NIGHTS", v.silence(7), 63);
        due("6 NIGHTS", v.silence(6), -1);
    }

    static void promise18_silence_theFewestNotTheLeastBits() {
        // talks of 1, 1, 3; 4 NIGHTS on the way
        Voice v = Voice.of("round 9;goes 9;place a at 1 talk 1;place b at 2 talk 1;place c at 3 talk 3;");
        due("9 NIGHTS", v.silence(9), 0);
        due("8 NIGHTS", v.silence(8), 1);
        due("7 NIGHTS", v.silence(7), 4);
        due("5 NIGHTS", v.silence(5), 5);
        due("4 NIGHTS", v.silence(4), 7);
        due("3 NIGHTS", v.silence(3), -1);
    }

    static void promise18_silence_999TimesRoundIsAlwaysNone() {
        due("999", Voice.at("round 5;goes 99;", 0, 0, 999, 0, 0).silence(40), -1);
        due("998", Voice.at("round 5;goes 99;", 0, 0, 998, 0, 0).silence(40), 0);
    }

    static void promise18_silence_notBeyondNight999() {
        due("40 from 959", Voice.at("round 40;", 959, 0, 0, 0, 0).silence(40), 0);
        due("40 from 960", Voice.at("round 5;", 960, 0, 0, 0, 0).silence(40), -1);
        due("39 from 960", Voice.at("round 5;", 960, 0, 0, 0, 0).silence(39), 0);
        due("1 from 998", Voice.at("round 5;", 998, 4, 0, 0, 0).silence(1), 0);
        due("1 from 999", Voice.at("round 5;", 999, 4, 0, 0, 0).silence(1), -1);
    }

    static void promise18_silence_whatItTalksNowGoesOn() {
        Voice v = Voice.at("round 9;goes 9;place p at 4 talk 5;", 0, 4, 0, 3, 0, 5);
        due("4 NIGHTS", v.silence(4), 0);
        due("3 NIGHTS", v.silence(3), -1);
    }

    static void promise18_silence_talk0MayBeMoreByTheSumOfTalks() {
        Voice v = Voice.of("round 9;place p at 1 talk 3;goes 9;talks talk+2;");
        due("7 NIGHTS", v.silence(7), 0);
        due("6 NIGHTS", v.silence(6), 1);
        due("4 NIGHTS", v.silence(4), 1);
        due("3 NIGHTS", v.silence(3), -1);
    }

    /** "NONE when all are not enough" is read so: when no choice of PLACES is. Here a silenced PLACE talks longer. */
    static void promise18_silence_fewerMayBeEnoughWhereAllAreNot() {
        Voice v = Voice.of("round 9;place p at 1 talk 3;place q at 2 talk 1;goes 9;talks (3-talk)*(talk+1);");
        due("p talks 0, q talks 4", v.silence(7), 0);
        due("q silenced talks 3", v.silence(6), 2);
        due("p silenced talks 3", v.silence(5), -1);
        Voice w = Voice.of("round 9;place p at 1 talk 9;goes 9;talks 9-talk;");
        due("p silenced talks 9", w.silence(2), 0);
        due("not at all", w.silence(1), -1);
    }

    static void promise18_silence_theTalksStay() {
        Voice v = Voice.of(sixPlaces());
        v.answers("all", 63, () -> v.silence(7));
    }

    // ---- terms III and promise 19: ODDS

    static void promise19_odds_0And1000AreTheEdges() {
        due("never", Voice.of("round 9;cough 50;ear a row 0 sharp 0;hears not all;").odds(0), 0);
        due("always", Voice.of("round 9;cough 50;ear a row 0 sharp 0;hears all;").odds(0), 1000);
    }

    static void promise19_odds_oneRowAndAllButOne() {
        due("one", Voice.of("round 9;hush 5;cough 1;ear a row 0 sharp 0;hears hush=0;").odds(0), 1);
        due("all but one", Voice.of("round 9;hush 5;cough 1;ear a row 0 sharp 0;hears not hush=0;").odds(0), 999);
        due("the last hush", Voice.of("round 9;hush 5;cough 1;ear a row 0 sharp 0;hears hush=9;").odds(0), 1);
    }

    static void promise19_odds_cough0And100() {
        due("cough 0", Voice.of("round 9;hush 5;ear a row 0 sharp 0;hears hush=5;").odds(0), 1000);
        due("cough 0, another hush", Voice.of("round 9;hush 5;ear a row 0 sharp 0;hears hush=4;").odds(0), 0);
        due("cough 100", Voice.of("round 9;hush 5;cough 100;ear a row 0 sharp 0;hears hush=5;").odds(0), 100);
        due("cough 99", Voice.of("round 9;hush 5;cough 99;ear a row 0 sharp 0;hears hush=5;").odds(0), 99 + 10);
    }

    static void promise19_odds_ofNoneSuch() {
        Voice v = Voice.lived();
        v.answersNone("EAR 2", () -> v.odds(2));
        v.answersNone("EAR -1", () -> v.odds(-1));
        due("lowest", v.odds(LOW), -1);
        due("highest", v.odds(HIGH), -1);
        due("no EARS", Voice.of("round 9;").odds(0), -1);
        due("no house", new Voice().odds(0), -1);
        due("EAR 6", Voice.of("round 9;" + ears(7) + "hears sharp=6;").odds(6), 1000);
        due("EAR 7", Voice.of("round 9;" + ears(7)).odds(7), -1);
    }

    static void promise19_odds_beyondNight999IsNone() {
        due("998", ever(998).odds(0), 1000);
        due("999", ever(999).odds(0), -1);
    }

    static void promise19_odds_theSeedStays() {
        Voice v = Voice.lived();
        int odds = v.odds(0);
        v.answers("odds", odds, () -> v.odds(0));
    }

    static void promise19_odds_theCoughIsInGoesToo() {
        due("far 20", Voice.of("round 200;cough 10;ear a row 0 sharp 0;goes hush*10;hears far=20;").odds(0), 10);
    }

    static void promise19_odds_whileItTalksTheCoughIsInHearsAlone() {
        Voice v = Voice.at("round 200;cough 10;ear a row 0 sharp 0;goes hush;hears far=7 and hush<5;", 0, 7, 0, 2, 9, 0);
        due("5 coughs of 10", v.odds(0), 50);
    }

    public static void main(String[] args) throws IllegalAccessException {
        Edges.run(EdgesAheadTest.class);
    }
}
