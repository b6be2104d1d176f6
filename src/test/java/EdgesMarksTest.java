import java.util.Arrays;
import java.util.Map;

/** Boundary cases of MARKED, MILES, TELLING and AN IMAGE (terms III), and of promises 20 to 22 and 31 to 34. */
public final class EdgesMarksTest {
    private static final int LOW = Integer.MIN_VALUE;
    private static final int HIGH = Integer.MAX_VALUE;
    private static final int MARKED = 10;
    private static final String ALWAYS = "round 9;ear a row 0 sharp 0;hears all;";
    private static final String NEVER = "round 9;ear a row 0 sharp 0;hears not all;";
    /** Heard at MILE 0 alone; the voice goes on by one. */
    private static final String AT_MILE_0 = "round 40;voice 7;ear a row 0 sharp 0;ear b row 0 sharp 1;hears far=0 and sharp=0;";

    private EdgesMarksTest() {
    }

    private static void due(String what, long got, long want) {
        Check.due(what, got, want);
    }

    private static void due(String what, boolean got, boolean want) {
        Check.due(what, got, want);
    }

    private static String ears(int count) {
        StringBuilder b = new StringBuilder();
        for (int i = 0; i < count; i++) {
            b.append("ear ").append((char) ('a' + i)).append(" row 0 sharp ").append(i).append(";");
        }
        return b.toString();
    }

    private static void telling(Voice v, int night, int ear, int left) {
        due("NIGHT", v.tells(0), night);
        due("EAR", v.tells(1), ear);
        due("left", v.tells(2), left);
    }

    // ---- promise 20: mark

    /** A tape that is no row of MARKED: the MARKED ones stay, and so does all else; the tape goes. */
    private static void marksRefused(String what, int... tape) {
        Voice v = Voice.lived();
        v.refuses(5, "mark() of " + what, () -> v.rows(tape));
        due("the tape goes", v.tapeIsEmpty(), true);
    }

    static void promise20_mark_1RowIsTheLeast() {
        Voice v = Voice.of(Voice.HOME);
        due("mark", v.rows(0, 0, 1), 1);
        due("MARKED", v.has(MARKED), 1);
        due("none refused", v.status(5), 0);
    }

    static void promise20_mark_16RowsAreTheMost() {
        Voice v = Voice.of(Voice.HOME);
        due("mark", v.rows(new int[48]), 16);
        due("MARKED", v.has(MARKED), 16);
    }

    static void promise20_mark_17RowsAreRefused() {
        marksRefused("17 rows", new int[51]);
    }

    static void promise20_mark_anEmptyTapeIsRefused() {
        marksRefused("nothing");
    }

    static void promise20_mark_noWholeRowsAreRefused() {
        marksRefused("1 byte", 0);
        marksRefused("2 bytes", 0, 0);
        marksRefused("4 bytes", 0, 0, 0, 0);
        marksRefused("47 bytes", new int[47]);
        marksRefused("49 bytes", new int[49]);
        marksRefused("1600 bytes", new int[1600]);
    }

    static void promise20_mark_night0And30AreTheEdges() {
        due("0", Voice.of(Voice.HOME).rows(0, 0, 0), 1);
        due("30", Voice.of(Voice.HOME).rows(30, 0, 0), 1);
    }

    static void promise20_mark_night31IsRefused() {
        marksRefused("NIGHT 31", 31, 0, 0);
        marksRefused("NIGHT 128", 128, 0, 0);
        marksRefused("NIGHT 255", 255, 0, 0);
    }

    static void promise20_mark_theLastEarAndOneMore() {
        due("EAR 1", Voice.of(Voice.HOME).rows(0, 1, 0), 1);
        marksRefused("EAR 2", 0, 2, 0);
        marksRefused("EAR 128", 0, 128, 0);
        marksRefused("EAR 255", 0, 255, 0);
        due("EAR 6 of 7", Voice.of("round 9;" + ears(7)).rows(0, 6, 0), 1);
        due("EAR 7 of 7", Voice.of("round 9;" + ears(7)).rows(0, 7, 0), -1);
    }

    static void promise20_mark_0And1AreTheEdges() {
        due("0", Voice.of(Voice.HOME).rows(0, 0, 0), 1);
        due("1", Voice.of(Voice.HOME).rows(0, 0, 1), 1);
        marksRefused("2", 0, 0, 2);
        marksRefused("128", 0, 0, 128);
        marksRefused("255", 0, 0, 255);
    }

    static void promise20_mark_aWrongLastRowRefusesAll() {
        int[] rows = new int[48];
        rows[47] = 2;
        marksRefused("a wrong 16th row", rows);
        marksRefused("a wrong 2nd row", 1, 1, 1, 31, 0, 0);
    }

    static void promise20_mark_withoutAHouseIsRefused() {
        Voice v = new Voice();
        v.refuses(5, "mark()", () -> v.rows(0, 0, 0));
        due("the tape goes", v.tapeIsEmpty(), true);
    }

    static void promise20_mark_withoutEarsIsRefused() {
        Voice v = Voice.of("round 9;");
        v.refuses(5, "mark()", () -> v.rows(0, 0, 0));
    }

    static void promise20_mark_theTapeGoes() {
        Voice v = Voice.of(Voice.HOME);
        v.rows(0, 0, 0);
        due("the tape goes", v.tapeIsEmpty(), true);
    }

    static void promise20_mark_theLatestAloneCounts() {
        Voice v = Voice.of(AT_MILE_0);
        v.rows(0, 0, 1, 1, 0, 0);
        due("MARKED", v.has(MARKED), 2);
        v.rows(3, 0, 1);
        due("MARKED", v.has(MARKED), 1);
        due("MILE", v.miles(0), 36);
    }

    static void promise20_mark_likeAndContraryRowsMayBe() {
        due("like ones", Voice.of(Voice.HOME).rows(0, 0, 1, 0, 0, 1), 2);
        due("contrary ones", Voice.of(Voice.HOME).rows(0, 0, 1, 0, 0, 0), 2);
    }

    static void promise20_mark_itIsNoAct() {
        Voice v = Voice.of(Voice.HOME);
        v.hush(5);
        v.rows(0, 0, 1);
        due("ACTS", v.has(11), 1);
        v.undo();
        due("MARKED", v.has(MARKED), 1);
    }

    static void promise20_mark_atNight999() {
        due("mark", Voice.at(ALWAYS, 999, 0, 0, 0, 0, 0).rows(30, 0, 1), 1);
    }

    // ---- promise 21: miles

    static void promise21_miles_allWithoutMarks() {
        Voice v = Voice.of("round 5;");
        due("how many", v.miles(-1), 5);
        for (int k = 0; k < 5; k++) {
            due("the k-th", v.miles(k), k);
        }
        due("no more", v.miles(5), -1);
        due("of 200", Voice.of("round 200;").miles(199), 199);
        due("of 200", Voice.of("round 200;").miles(200), -1);
    }

    static void promise21_miles_ofNoneSuch() {
        Voice v = Voice.lived();
        int many = v.miles(-1);
        due("some", many > 0, true);
        v.answersNone("the one behind the last", () -> v.miles(many));
        v.answersNone("-2", () -> v.miles(-2));
        due("the last one", v.miles(many - 1) >= 0, true);
        due("lowest", v.miles(LOW), -1);
        due("highest", v.miles(HIGH), -1);
    }

    static void promise21_miles_noneLeft() {
        Voice v = Voice.of(ALWAYS);
        v.rows(0, 0, 0);
        due("how many", v.miles(-1), 0);
        due("the first", v.miles(0), -1);
        Voice w = Voice.of(AT_MILE_0);
        w.rows(0, 0, 1, 0, 0, 0);
        due("contrary rows", w.miles(-1), 0);
    }

    static void promise21_miles_withoutAHouse() {
        Voice v = new Voice();
        v.answersNone("how many", () -> v.miles(-1));
        v.answersNone("the first", () -> v.miles(0));
    }

    static void promise21_miles_rising() {
        Voice v = Voice.of("round 9;ear a row 0 sharp 0;hears far=1;");
        v.rows(0, 0, 1);
        due("how many", v.miles(-1), 2);
        due("to MILE 1", v.miles(0), 0);
        due("to MILE 8", v.miles(1), 7);
        due("no more", v.miles(2), -1);
    }

    static void promise21_miles_night0And30() {
        Voice v = Voice.of(AT_MILE_0);
        v.rows(0, 0, 1);
        due("NIGHT 0", v.miles(0), 39);
        due("alone", v.miles(-1), 1);
        v.rows(30, 0, 1);
        due("NIGHT 30", v.miles(0), 40 - 31);
        due("alone", v.miles(-1), 1);
    }

    static void promise21_miles_hearingAndNot() {
        Voice v = Voice.of(AT_MILE_0);
        v.rows(0, 0, 0);
        due("all but one", v.miles(-1), 39);
        v.rows(0, 1, 0);
        due("all", v.miles(-1), 40);
        v.rows(0, 1, 1);
        due("none", v.miles(-1), 0);
    }

    static void promise21_miles_theLastOf16RowsCounts() {
        Voice v = Voice.of(AT_MILE_0);
        int[] rows = new int[48];
        for (int i = 0; i < 16; i++) {
            rows[3 * i] = i;
        }
        v.rows(rows);
        due("not within 16 of MILE 0", v.miles(-1), 24);
        rows[45] = 20;
        v.rows(rows);
        due("the 16th is another NIGHT", v.miles(-1), 24);
        due("MILE 40 - 21 is out", v.miles(18), 18);
        due("MILE 40 - 21 is out", v.miles(19), 20);
        rows[47] = 1;
        v.rows(rows);
        due("the 16th alone is so", v.miles(-1), 1);
        due("MILE 40 - 21", v.miles(0), 19);
    }

    static void promise21_miles_talkingWithNobody() {
        Voice v = Voice.at(AT_MILE_0, 0, 39, 0, 20, 0, 0, 0);
        v.rows(0, 0, 1);
        due("it would go on", v.miles(0), 39);
    }

    static void promise21_miles_refusedMarksDoNotCount() {
        Voice v = Voice.of(AT_MILE_0);
        due("refused", v.rows(31, 0, 1), -1);
        due("all, as there was none", v.miles(-1), 40);
        v.rows(0, 0, 1);
        due("refused", v.rows(31, 0, 0), -1);
        due("the latest that was not", v.miles(-1), 1);
    }

    static void promise21_miles_ofThisHouseAlone() {
        Voice v = Voice.of(AT_MILE_0);
        v.rows(0, 0, 1);
        v.tell("round 4;");
        due("behind a FAULT", v.miles(-1), 1);
        v.tell(AT_MILE_0);
        due("of another", v.miles(-1), 40);
    }

    static void promise21_miles_theLastNightIs998() {
        Voice v = Voice.at(ALWAYS, 968, 0, 0, 0, 0, 0);
        v.rows(30, 0, 1);
        due("NIGHT 30 from 968", v.miles(-1), 9);
        v.nights(1);
        due("NIGHT 30 from 969", v.miles(-1), 0);
        v.rows(29, 0, 1);
        due("NIGHT 29 from 969", v.miles(-1), 9);
    }

    /** "NIGHTS beyond 999 are by none" is read so: a row of such a NIGHT is so by no MILE, hearing or not. */
    static void promise21_miles_nightsBeyond999AreByNone() {
        Voice v = Voice.at(NEVER, 968, 0, 0, 0, 0, 0);
        v.rows(30, 0, 0);
        due("NIGHT 30 from 968", v.miles(-1), 9);
        v.nights(1);
        due("NIGHT 30 from 969", v.miles(-1), 0);
        due("the first", v.miles(0), -1);
        Voice w = Voice.at(ALWAYS, 999, 0, 0, 0, 0, 0);
        due("without marks at NIGHT 999", w.miles(-1), 9);
        w.rows(0, 0, 1);
        due("NIGHT 0 from 999", w.miles(-1), 0);
        w.rows(0, 0, 0);
        due("not hearing", w.miles(-1), 0);
    }

    static void promise21_miles_stayBehindNightsAndOn() {
        Voice v = Voice.of(AT_MILE_0);
        v.rows(1, 0, 1);
        v.nights(5);
        due("from now on", v.miles(0), 38);
        due("on", v.image(1, 2, 3, 4, 5, 6, 7), true);
        due("MARKED", v.has(MARKED), 1);
        due("from now on", v.miles(0), 38);
    }

    /** The latest mark() counts, not the one that counted ahead of the ACT. */
    static void promise21_miles_theLatestMarkCountsBehindUndo() {
        Voice v = Voice.of(AT_MILE_0);
        v.rows(0, 0, 1);
        v.nights(5);
        v.rows(1, 0, 1, 2, 0, 0);
        due("undo", v.undo(), true);
        due("NIGHT", v.has(3), 0);
        due("MARKED", v.has(MARKED), 2);
        due("by the latest", v.miles(0), 38);
        due("one", v.miles(-1), 1);
    }

    static void promise21_miles_theFirstMarkStaysBehindUndo() {
        Voice v = Voice.of(AT_MILE_0);
        v.hush(5);
        v.chance(3);
        v.rows(3, 0, 1);
        due("undo", v.undo(), true);
        due("undo", v.undo(), true);
        due("MARKED", v.has(MARKED), 1);
        due("from now on", v.miles(0), 36);
        due("one", v.miles(-1), 1);
    }

    static void promise21_miles_ofTheMomentThatAnImageTells() {
        Voice v = Voice.of("round 40;ear a row 0 sharp 0;goes 1+rounds;hears far=0;");
        v.rows(0, 0, 1);
        due("round 0 times", v.miles(0), 39);
        due("on", v.image(0, 0, 4, 0, 0, 0), true);
        due("MARKED", v.has(MARKED), 1);
        due("round 4 times", v.miles(0), 35);
        due("on", v.image(999, 0, 4, 0, 0, 0), true);
        due("MARKED", v.has(MARKED), 1);
        due("no NIGHT comes", v.miles(-1), 0);
        due("on", v.image(998, 0, 4, 0, 0, 0), true);
        due("one comes", v.miles(0), 35);
    }

    // ---- promise 22: tells

    static void promise22_tells_othersAreNone() {
        Voice v = Voice.lived();
        due("there is a TELLING", v.tells(0) >= 0, true);
        v.answersNone("what 3", () -> v.tells(3));
        v.answersNone("what -1", () -> v.tells(-1));
        due("lowest", v.tells(LOW), -1);
        due("highest", v.tells(HIGH), -1);
    }

    static void promise22_tells_withoutAnyLeft() {
        Voice v = Voice.of(ALWAYS);
        v.rows(0, 0, 0);
        v.answersNone("NIGHT", () -> v.tells(0));
        due("EAR", v.tells(1), -1);
        due("left", v.tells(2), -1);
    }

    static void promise22_tells_withoutEars() {
        Voice v = Voice.of("round 9;");
        v.answersNone("NIGHT", () -> v.tells(0));
        due("EAR", v.tells(1), -1);
        due("left", v.tells(2), -1);
    }

    static void promise22_tells_withoutAHouse() {
        Voice v = new Voice();
        v.answersNone("NIGHT", () -> v.tells(0));
        due("left", v.tells(2), -1);
    }

    static void promise22_tells_whenNoNightComes() {
        telling(Voice.at(ALWAYS, 998, 0, 0, 0, 0, 0), 0, 0, 9);
        telling(Voice.at(ALWAYS, 999, 0, 0, 0, 0, 0), -1, -1, -1);
    }

    static void promise22_tells_whenARowIsBeyondNight999() {
        Voice v = Voice.at(ALWAYS, 998, 0, 0, 0, 0, 0);
        v.rows(1, 0, 1);
        due("none left", v.tells(0), -1);
    }

    static void promise22_tells_nothingTellsAnything() {
        telling(Voice.of(ALWAYS), 0, 0, 9);
        telling(Voice.of(NEVER), 0, 0, 9);
    }

    static void promise22_tells_oneLeft() {
        Voice v = Voice.of(AT_MILE_0);
        v.rows(0, 0, 1);
        telling(v, 0, 0, 1);
    }

    static void promise22_tells_night30IsTheLast() {
        telling(Voice.of("round 9;ear a row 0 sharp 0;hears night=30 and far<3;"), 30, 0, 5);
        telling(Voice.of("round 9;ear a row 0 sharp 0;hears night=31 and far<3;"), 0, 0, 9);
    }

    static void promise22_tells_notBeyondNight999() {
        telling(Voice.at("round 9;ear a row 0 sharp 0;hears night=998 and far<3;", 968, 0, 0, 0, 0, 0), 30, 0, 5);
        telling(Voice.at("round 9;ear a row 0 sharp 0;hears night=998 and far<3;", 990, 0, 0, 0, 0, 0), 8, 0, 5);
        telling(Voice.at("round 9;ear a row 0 sharp 0;hears night=999 and far<3;", 990, 0, 0, 0, 0, 0), 0, 0, 9);
    }

    static void promise22_tells_ofLikeOnesTheFirstNightThenTheFirstEar() {
        telling(Voice.of("round 9;" + ears(3) + "hears night>1 and far<3 and sharp>0;"), 2, 1, 5);
        telling(Voice.of("round 9;" + ears(2) + "hears night=0 and sharp=1 and far<3 or night=1 and sharp=0 and far<3;"), 0, 1, 5);
    }

    static void promise22_tells_the7thEar() {
        telling(Voice.of("round 9;" + ears(7) + "hears sharp=6 and night=3 and far<3;"), 3, 6, 5);
    }

    static void promise22_tells_hearingOrNotTheMostCounts() {
        telling(Voice.of("round 9;" + ears(2) + "hears sharp=0 and far>0 or sharp=1 and far>1;"), 0, 1, 6);
        telling(Voice.of("round 9;" + ears(2) + "hears sharp=0 and far=0 or sharp=1 and far<2;"), 0, 1, 6);
    }

    static void promise22_tells_evenAndOddHalves() {
        telling(Voice.of("round 10;ear a row 0 sharp 0;hears far<3;"), 0, 0, 5);
        telling(Voice.of("round 9;ear a row 0 sharp 0;hears far<2;"), 0, 0, 6);
    }

    static void promise22_tells_byTheMilesLeftAlone() {
        // left are the MILES from which it comes within 2 of MILE 0 next: 6, 7, 8, 0, 1
        Voice v = Voice.of("round 9;ear a row 0 sharp 0;hears far<3;");
        v.rows(0, 0, 1);
        due("left", v.miles(-1), 5);
        // in NIGHT 1 they are at 8, 0, 1, 2, 3; in NIGHT 2 at 0, 1, 2, 3, 4
        telling(v, 2, 0, 3);
    }

    // ---- terms III and promise 31: an image

    private static void written(Voice v, int... want) {
        due("how many", v.image(), want.length);
        for (int k = 0; k < want.length; k++) {
            due("byte " + k, v.octet(k), want[k]);
        }
        due("no more", v.octet(want.length), -1);
    }

    static void promise31_image_withoutAHouse() {
        written(new Voice(), 0, 0, 0, 0, 0, 0, 0, 0, 176);
    }

    static void promise31_image_theShortest() {
        written(Voice.of("round 5;"), 0, 0, 0, 0, 0, 0, 0, 0, 176);
    }

    static void promise31_image_theLongest() {
        StringBuilder b = new StringBuilder("round 200;voice 199;hush 9;" + ears(7));
        for (int i = 0; i < 6; i++) {
            b.append("place ").append((char) ('p' + i)).append(" at ").append(i + 1).append(" talk ").append(9 - i).append(";");
        }
        written(Voice.of(b.toString()), Check.image(0, 199, 0, 0, 9, 0, 0, 0, 0, 0, 0, 0, 9, 8, 7, 6, 5, 4));
        due("22 bytes", Voice.of(b.toString()).image(), 22);
    }

    static void promise31_image_twoBytesTheHigherFirst() {
        int[] want = Check.image(999, 199, 999, 20, 9);
        due("the last byte", want[8], 226);
        written(Voice.at("round 200;", 999, 199, 999, 20, 9), 3, 231, 0, 199, 3, 231, 20, 9, 226);
        written(Voice.at("round 200;", 255, 0, 256, 0, 0), Check.image(255, 0, 256, 0, 0));
        written(Voice.at("round 200;", 256, 0, 255, 0, 0), Check.image(256, 0, 255, 0, 0));
    }

    static void promise31_image_rowsAndTalksAsTheyAreNow() {
        Voice v = Voice.of(Voice.HOME);
        v.sit(0, 0);
        v.please(1, 9);
        written(v, Check.image(0, 14, 0, 0, 3, 0, 1, 2, 9));
    }

    static void promise31_image_changesNothingElse() {
        Voice v = Voice.lived();
        v.nights(1);
        Map<String, Integer> due = v.seen();
        v.image();
        Map<String, Integer> got = v.seen();
        due.keySet().removeIf(key -> key.startsWith("octet"));
        got.keySet().removeIf(key -> key.startsWith("octet"));
        Voice.same("image()", got, due);
    }

    // ---- promise 32: octet

    static void promise32_octet_aheadOfAnyImage() {
        Voice v = Voice.of(Voice.HOME);
        due("0", v.octet(0), -1);
    }

    static void promise32_octet_firstAndLast() {
        Voice v = Voice.at(Voice.HOME, 999, 1, 2, 3, 4, 5, 6, 7, 8);
        due("13 bytes", v.image(), 13);
        due("the first", v.octet(0), 3);
        due("the last", v.octet(12), Check.image(999, 1, 2, 3, 4, 5, 6, 7, 8)[12]);
    }

    static void promise32_octet_ofNoneSuch() {
        Voice v = Voice.lived();
        v.answersNone("13", () -> v.octet(13));
        v.answersNone("-1", () -> v.octet(-1));
        due("lowest", v.octet(LOW), -1);
        due("highest", v.octet(HIGH), -1);
    }

    static void promise32_octet_ofTheLatestImageAlone() {
        Voice v = Voice.of(Voice.HOME);
        v.image();
        v.hush(9);
        due("not of what is now", v.octet(7), 3);
        v.image();
        due("of the latest", v.octet(7), 9);
    }

    static void promise32_octet_aShorterImageBehindALongerOne() {
        Voice v = Voice.of(Voice.HOME);
        v.image();
        v.tell("round 9;");
        due("the former one is the latest yet", v.octet(12) >= 0, true);
        due("9 bytes", v.image(), 9);
        due("8", v.octet(8) >= 0, true);
        due("9", v.octet(9), -1);
    }

    // ---- promise 33: on

    /** A tape that is no image of the house: all stays; the tape goes. */
    private static void imageRefused(String what, int... tape) {
        Voice v = Voice.lived();
        v.refuses(5, "on() of " + what, () -> v.back(tape));
        due("the tape goes", v.tapeIsEmpty(), true);
    }

    private static void imageTaken(int night, int mile, int rounds, int talking, int hush, int... rowsAndTalks) {
        Voice v = Voice.lived();
        due("on", v.image(night, mile, rounds, talking, hush, rowsAndTalks), true);
        int[] want = {night, mile, rounds, talking, hush};
        for (int i = 0; i < want.length; i++) {
            due("has " + (i + 3), v.has(i + 3), want[i]);
        }
        for (int i = 0; i < 2; i++) {
            due("row " + i, v.ear(i, 0), rowsAndTalks[i]);
            due("talk " + i, v.place(i, 1), rowsAndTalks[i + 2]);
        }
        due("none refused", v.status(5), 1);
    }

    static void promise33_on_allLeast() {
        imageTaken(0, 0, 0, 0, 0, 0, 0, 0, 0);
    }

    static void promise33_on_allMost() {
        imageTaken(999, 19, 999, 20, 9, 9, 9, 9, 9);
    }

    static void promise33_on_night1000IsRefused() {
        imageRefused("NIGHT 1000", Check.image(1000, 1, 1, 1, 1, 1, 1, 1, 1));
        imageRefused("NIGHT 1024", Check.image(1024, 1, 1, 1, 1, 1, 1, 1, 1));
        imageRefused("NIGHT 65535", Check.image(65535, 1, 1, 1, 1, 1, 1, 1, 1));
    }

    static void promise33_on_theMileOfTheRoundIsRefused() {
        imageRefused("MILE 20", Check.image(1, 20, 1, 1, 1, 1, 1, 1, 1));
        imageRefused("MILE 256", Check.image(1, 256, 1, 1, 1, 1, 1, 1, 1));
        imageRefused("MILE 65535", Check.image(1, 65535, 1, 1, 1, 1, 1, 1, 1));
    }

    static void promise33_on_1000TimesRoundIsRefused() {
        imageRefused("1000 times", Check.image(1, 1, 1000, 1, 1, 1, 1, 1, 1));
        imageRefused("65535 times", Check.image(1, 1, 65535, 1, 1, 1, 1, 1, 1));
    }

    static void promise33_on_talking21IsRefused() {
        imageRefused("talking 21", Check.image(1, 1, 1, 21, 1, 1, 1, 1, 1));
        imageRefused("talking 255", Check.image(1, 1, 1, 255, 1, 1, 1, 1, 1));
    }

    static void promise33_on_hush10IsRefused() {
        imageRefused("hush 10", Check.image(1, 1, 1, 1, 10, 1, 1, 1, 1));
        imageRefused("hush 255", Check.image(1, 1, 1, 1, 255, 1, 1, 1, 1));
    }

    static void promise33_on_row10IsRefused() {
        imageRefused("row 10 of the first", Check.image(1, 1, 1, 1, 1, 10, 1, 1, 1));
        imageRefused("row 10 of the last", Check.image(1, 1, 1, 1, 1, 1, 10, 1, 1));
        imageRefused("row 255", Check.image(1, 1, 1, 1, 1, 255, 1, 1, 1));
    }

    static void promise33_on_talk10IsRefused() {
        imageRefused("talk 10 of the first", Check.image(1, 1, 1, 1, 1, 1, 1, 10, 1));
        imageRefused("talk 10 of the last", Check.image(1, 1, 1, 1, 1, 1, 1, 1, 10));
        imageRefused("talk 255", Check.image(1, 1, 1, 1, 1, 1, 1, 255, 1));
    }

    static void promise33_on_anotherLastByteIsRefused() {
        int[] image = Check.image(1, 2, 3, 4, 5, 6, 7, 8, 9);
        image[12]++;
        imageRefused("one more", image);
        image[12] -= 2;
        imageRefused("one less", image);
    }

    static void promise33_on_theLastByteIsBelow251() {
        int night = 0;
        while (Check.image(night, 2, 3, 4, 5, 6, 7, 8, 9)[12] > 4) {
            night++;
        }
        imageTaken(night, 2, 3, 4, 5, 6, 7, 8, 9);
        int[] image = Check.image(night, 2, 3, 4, 5, 6, 7, 8, 9);
        image[12] += 251;
        imageRefused("251 more", image);
    }

    static void promise33_on_everyByteIsInTheLastOne() {
        for (int k = 0; k < 12; k++) {
            int[] image = Check.image(1, 2, 3, 4, 5, 6, 7, 8, 8);
            image[k]++;
            Voice v = Voice.of(Voice.HOME);
            due("byte " + k, v.back(image), false);
        }
    }

    static void promise33_on_anEmptyTapeIsRefused() {
        imageRefused("nothing");
    }

    static void promise33_on_oneByteLessOrMoreIsRefused() {
        int[] image = Check.image(1, 2, 3, 4, 5, 6, 7, 8, 9);
        int[] less = Arrays.copyOf(image, 12);
        int[] more = Arrays.copyOf(image, 14);
        imageRefused("one less", less);
        imageRefused("one more", more);
        imageRefused("1600 bytes", Arrays.copyOf(image, 1600));
    }

    static void promise33_on_ofAHouseWithMoreOrFewerIsRefused() {
        imageRefused("one fewer", Check.image(1, 2, 3, 4, 5, 6, 7, 8));
        imageRefused("one more", Check.image(1, 2, 3, 4, 5, 6, 7, 8, 9, 9));
        imageRefused("none", Check.image(1, 2, 3, 4, 5));
    }

    static void promise33_on_withoutAHouseIsRefused() {
        Voice v = new Voice();
        v.refuses(5, "on()", () -> v.image(0, 0, 0, 0, 0));
        due("the tape goes", v.tapeIsEmpty(), true);
    }

    static void promise33_on_theMostOfASmallAndALargeRound() {
        due("MILE 4 of 5", Voice.of("round 5;").image(0, 4, 0, 0, 0), true);
        due("MILE 5 of 5", Voice.of("round 5;").image(0, 5, 0, 0, 0), false);
        due("MILE 199 of 200", Voice.of("round 200;").image(0, 199, 0, 0, 0), true);
        due("MILE 200 of 200", Voice.of("round 200;").image(0, 200, 0, 0, 0), false);
    }

    static void promise33_on_talkingWhereThereIsNoPlace() {
        Voice v = Voice.of("round 5;");
        due("on", v.image(0, 3, 0, 20, 0), true);
        due("talking", v.has(6), 20);
    }

    static void promise33_on_nothingKeptNoActUndone() {
        Voice v = Voice.lived();
        due("some KEPT", v.has(9) > 0, true);
        due("some ACTS", v.has(11) > 0, true);
        due("on", v.image(1, 2, 3, 4, 5, 6, 7, 8, 9), true);
        due("KEPT", v.has(9), 0);
        due("ACTS", v.has(11), 0);
        due("undo", v.undo(), false);
        due("the tape goes", v.tapeIsEmpty(), true);
    }

    static void promise33_on_markedSeedImageAndRefusalsStay() {
        Voice v = Voice.lived();
        int seed = v.has(12);
        int octet = v.octet(3);
        due("on", v.image(1, 2, 3, 4, 5, 6, 7, 8, 9), true);
        due("MARKED", v.has(MARKED), 1);
        due("the seed", v.has(12), seed);
        due("the latest image", v.octet(3), octet);
        due("status 0", v.status(0), 1);
        due("status 5", v.status(5), 1);
        due("the latest FAULT", v.fault(0), 4);
    }

    static void promise33_on_itsOwnImageChangesNothingElse() {
        Voice v = Voice.lived();
        v.image();
        int[] image = new int[13];
        for (int k = 0; k < 13; k++) {
            image[k] = v.octet(k);
        }
        Map<String, Integer> due = v.seen();
        due("on", v.back(image), true);
        due.put("has 9", 0);
        due.put("has 11", 0);
        due.keySet().removeIf(key -> key.startsWith("kept"));
        Voice.same("on()", v.seen(), due);
    }

    static void promise33_on_anImageThatWasWrittenWithoutAHouseFitsTheLeast() {
        Voice v = new Voice();
        v.image();
        int last = v.octet(8);
        v.tell("round 5;voice 3;");
        due("on", v.back(0, 0, 0, 0, 0, 0, 0, 0, last), true);
        due("MILE", v.has(4), 0);
    }

    // ---- promise 34: status

    static void promise34_status_othersAreNone() {
        Voice v = Voice.lived();
        v.answersNone("6", () -> v.status(6));
        v.answersNone("-1", () -> v.status(-1));
        due("lowest", v.status(LOW), -1);
        due("highest", v.status(HIGH), -1);
    }

    static void promise34_status_0AtFirst() {
        Voice v = new Voice();
        for (int what = 0; what < 6; what++) {
            due("status " + what, v.status(what), 0);
        }
    }

    private static void statusIs(Voice v, int... want) {
        for (int what = 0; what < 6; what++) {
            due("status " + what, v.status(what), want[what]);
        }
    }

    static void promise34_status_eachCallInItsKind() {
        Voice v = new Voice();
        v.end(1);
        statusIs(v, 1, 0, 0, 0, 0, 0);
        v.house();
        statusIs(v, 1, 1, 0, 0, 0, 0);
        v.nights(1);
        v.chance(1);
        statusIs(v, 1, 1, 2, 0, 0, 0);
        v.hush(1);
        v.sit(0, 1);
        v.please(0, 1);
        statusIs(v, 1, 1, 2, 3, 0, 0);
        v.undo();
        statusIs(v, 1, 1, 2, 3, 1, 0);
        v.seed(-1);
        v.mark();
        v.on();
        statusIs(v, 1, 1, 2, 3, 1, 3);
    }

    static void promise34_status_aRefusedFeedIsOfKind0() {
        Voice v = new Voice();
        for (int i = 0; i < 82; i++) {
            v.feed(0, 0, 0, 0, 0);
        }
        statusIs(v, 2, 0, 0, 0, 0, 0);
    }

    static void promise34_status_questionsAreNeverRefused() {
        Voice v = new Voice();
        v.fault(7);
        v.has(77);
        v.letter(0, 0, 0);
        v.ear(0, 0);
        v.place(0, 0);
        v.stride();
        v.later(0, 0);
        v.round(0);
        v.heard(0);
        v.often(0, 0);
        v.quiet(0, 1);
        v.seats(1, -1);
        v.watch(1);
        v.silence(1);
        v.odds(0);
        v.miles(0);
        v.tells(0);
        v.kept(0, 0);
        v.octet(0);
        v.status(9);
        statusIs(v, 0, 0, 0, 0, 0, 0);
    }

    static void promise34_status_whatIsTakenIsNotCounted() {
        Voice v = Voice.of(Voice.HOME);
        v.nights(1);
        v.chance(1);
        v.hush(1);
        v.sit(0, 1);
        v.please(0, 1);
        v.undo();
        v.seed(0);
        v.rows(0, 0, 0);
        v.image(1, 2, 3, 4, 5, 6, 7, 8, 9);
        statusIs(v, 0, 0, 0, 0, 0, 0);
    }

    static void promise34_status_staysBehindHouseUndoAndOn() {
        Voice v = Voice.lived();
        statusIs(v, 1, 1, 1, 1, 0, 1);
        v.undo();
        v.image(1, 2, 3, 4, 5, 6, 7, 8, 9);
        v.tell("round 5;");
        statusIs(v, 1, 1, 1, 1, 0, 1);
    }

    static void promise34_status_to512Calls() {
        Voice v = new Voice();
        for (int i = 0; i < 511; i++) {
            v.undo();
        }
        due("the 512th call", v.status(4), 511);
    }

    public static void main(String[] args) throws IllegalAccessException {
        Edges.run(EdgesMarksTest.class);
    }
}
