import java.util.Map;

/** Boundary cases of the tape, of the HOUSE as a text (terms I), and of promises 1 to 5 and 7. */
public final class EdgesTextTest {
    private static final int LOW = Integer.MIN_VALUE;
    private static final int HIGH = Integer.MAX_VALUE;
    private static final int BLANKS = 0x20202020;
    private static final String OWN_WORDS = "round voice hush cough ear row sharp place at talk goes hears talks night mile"
            + " rounds far if or and not all min max";

    private EdgesTextTest() {
    }

    private static void due(String what, long got, long want) {
        Check.due(what, got, want);
    }

    private static void due(String what, boolean got, boolean want) {
        Check.due(what, got, want);
    }

    /** A text with a FAULT; ^ stands ahead of the byte that is at fault. */
    private static void fault(int kind, String marked) {
        int at = marked.indexOf('^');
        String text = marked.substring(0, at) + marked.substring(at + 1);
        Voice v = new Voice();
        due("house() of " + text, v.tell(text), -1);
        due("fault(0) of " + text, v.fault(0), kind);
        due("fault(1) of " + text, v.fault(1), at);
        due("status(1) of " + text, v.status(1), 1);
        due("no house of " + text, v.has(0), 0);
    }

    private static Voice stands(String text, int statements) {
        Voice v = new Voice();
        due("house() of " + text, v.tell(text), statements);
        due("fault(0) of " + text, v.fault(0), 0);
        due("fault(1) of " + text, v.fault(1), -1);
        due("status(1) of " + text, v.status(1), 0);
        return v;
    }

    /** What a SUM tells, as a stride; it must lie in 0 .. 99. */
    private static void sum(String sum, int want) {
        due(sum, stands("round 200;voice 7;hush 3;goes " + sum + ";", 4).stride(), want);
    }

    private static void test(String test, boolean want) {
        sum("if(" + test + ",1,2)", want ? 1 : 2);
    }

    private static String ears(int count) {
        StringBuilder b = new StringBuilder();
        for (int i = 0; i < count; i++) {
            b.append("ear ").append((char) ('a' + i)).append(" row 1 sharp 1;");
        }
        return b.toString();
    }

    private static String places(int count) {
        StringBuilder b = new StringBuilder();
        for (int i = 0; i < count; i++) {
            b.append("place ").append((char) ('p' + i)).append(" at ").append(i + 1).append(" talk 1;");
        }
        return b.toString();
    }

    private static String filled(String text, int length) {
        return text + " ".repeat(length - text.length());
    }

    // ---- promise 1: a new object

    static void promise01_new_noHouseNoVoice() {
        Voice v = new Voice();
        for (int what = 0; what < 12; what++) {
            due("has " + what, v.has(what), 0);
        }
        due("stride", v.stride(), -1);
        due("miles", v.miles(-1), -1);
        due("ear", v.ear(0, 0), -1);
        due("place", v.place(0, 0), -1);
    }

    static void promise01_new_theSeedIs1() {
        due("the seed", new Voice().has(12), 1);
        Voice v = Voice.of("round 9;");
        v.chance(1);
        due("the first DRAW is from 1", v.has(12), 1103515245L + 12345);
    }

    static void promise01_new_theTapeIsEmpty() {
        Voice v = new Voice();
        due("end(0)", v.end(0), true);
        due("end(1)", v.end(1), false);
        due("the first bytes", v.feed(0, 0, 0, 0, 0), 20);
    }

    static void promise01_new_nothingRefusedNoFaultNoImage() {
        Voice v = new Voice();
        for (int what = 0; what < 6; what++) {
            due("status " + what, v.status(what), 0);
        }
        due("fault(0)", v.fault(0), 0);
        due("fault(1)", v.fault(1), -1);
        due("octet(0)", v.octet(0), -1);
    }

    // ---- promise 2: feed

    private static void fillTape(Voice v, int length) {
        for (int i = 0; i < length / 20; i++) {
            due("feed", v.feed(BLANKS, BLANKS, BLANKS, BLANKS, BLANKS), 20 * i + 20);
        }
    }

    static void promise02_feed_firstOnAnEmptyTape() {
        due("feed", new Voice().feed(0, 0, 0, 0, 0), 20);
    }

    static void promise02_feed_toExactly1600() {
        Voice v = new Voice();
        fillTape(v, 1580);
        due("the 80th", v.feed(BLANKS, BLANKS, BLANKS, BLANKS, BLANKS), 1600);
        due("none refused", v.status(0), 0);
    }

    static void promise02_feed_refusedOnAFullTape() {
        Voice v = Voice.lived();
        fillTape(v, 1600);
        v.refuses(0, "feed", () -> v.feed(1, 2, 3, 4, 5));
    }

    static void promise02_feed_refusedTo1601() {
        Voice v = Voice.lived();
        fillTape(v, 1600);
        due("end", v.end(1581), true);
        v.refuses(0, "feed", () -> v.feed(1, 2, 3, 4, 5));
        due("no byte of it came", v.end(1582), false);
        due("none went", v.end(1581), true);
    }

    static void promise02_feed_takenFrom1580() {
        Voice v = new Voice();
        fillTape(v, 1600);
        due("end", v.end(1580), true);
        due("feed", v.feed(0, 0, 0, 0, 0), 1600);
        due("none refused", v.status(0), 0);
    }

    static void promise02_feed_aFullTapeKeepsItsBytesWhenOneIsRefused() {
        Voice v = new Voice();
        v.text(filled("round 5;", 1592) + "voice 4;");
        due("refused", v.feed(0, 0, 0, 0, 0), -1);
        due("house", v.house(), 2);
        due("its last STATEMENT", v.has(4), 4);
    }

    static void promise02_feed_theHighestByteFirst() {
        Voice v = new Voice();
        v.feed(0x726f756e, 0x6420373b, 0x766f6963, 0x6520363b, 0x20202020);
        due("round 7;voice 6;", v.house(), 2);
        due("the round", v.has(0), 7);
        due("the voice", v.has(4), 6);
    }

    static void promise02_feed_numbersBelow0AreBytesToo() {
        Voice v = new Voice();
        v.feed(0x726f756e, 0x6420373b, -1, LOW, HIGH);
        due("end", v.end(9), true);
        due("byte 255", v.house(), -1);
        due("its place", v.fault(1), 8);
        v.feed(0x726f756e, 0x6420373b, 0x20202020, LOW, HIGH);
        due("byte 128", v.house(), -1);
        due("its place", v.fault(1), 12);
    }

    // ---- promise 3: end

    static void promise03_end_0OfAnEmptyTape() {
        Voice v = new Voice();
        due("end(0)", v.end(0), true);
        due("none refused", v.status(0), 0);
    }

    static void promise03_end_1OfAnEmptyTapeIsRefused() {
        Voice v = Voice.lived();
        v.refuses(0, "end(1)", () -> v.end(1));
    }

    static void promise03_end_asManyAsThereAre() {
        Voice v = new Voice();
        v.feed(1, 2, 3, 4, 5);
        due("end(20)", v.end(20), true);
        due("all are there yet", v.feed(0, 0, 0, 0, 0), 40);
    }

    static void promise03_end_oneMoreThanThereAreIsRefused() {
        Voice v = Voice.lived();
        v.text("round 7;");
        v.refuses(0, "end(9)", () -> v.end(9));
        due("the tape stays", v.house(), 1);
    }

    static void promise03_end_below0IsRefused() {
        Voice v = Voice.lived();
        v.text("round 7;");
        v.refuses(0, "end(-1)", () -> v.end(-1));
        due("the tape stays", v.house(), 1);
    }

    static void promise03_end_lowestAndHighestAreRefused() {
        Voice v = new Voice();
        v.feed(1, 2, 3, 4, 5);
        due("lowest", v.end(LOW), false);
        due("highest", v.end(HIGH), false);
        due("refused", v.status(0), 2);
        due("the tape stays", v.end(20), true);
    }

    static void promise03_end_0EmptiesTheTape() {
        Voice v = new Voice();
        v.feed(1, 2, 3, 4, 5);
        due("end(0)", v.end(0), true);
        due("it is empty", v.end(1), false);
    }

    static void promise03_end_whatIsCutIsGone() {
        Voice v = new Voice();
        v.feed(1, 2, 3, 4, 5);
        due("end(7)", v.end(7), true);
        due("not 8", v.end(8), false);
        due("the next come behind them", v.feed(0, 0, 0, 0, 0), 27);
    }

    static void promise03_end_theFirstBytesAreKept() {
        Voice v = new Voice();
        v.text("round 9;voice 8;hush 7;");
        due("end(16)", v.end(16), true);
        due("house", v.house(), 2);
        due("voice", v.has(4), 8);
        due("hush", v.has(7), 0);
    }

    static void promise03_end_1600OfAFullTape() {
        Voice v = new Voice();
        fillTape(v, 1600);
        due("1601", v.end(1601), false);
        due("1600", v.end(1600), true);
        due("refused", v.status(0), 1);
    }

    // ---- promise 4: house

    static void promise04_house_emptyTapeIsRefused() {
        Voice v = new Voice();
        due("house", v.house(), -1);
        due("FAULT 1", v.fault(0), 1);
        due("at 0", v.fault(1), 0);
        due("refused", v.status(1), 1);
        due("no house", v.has(0), 0);
    }

    static void promise04_house_theLeastText() {
        Voice v = stands("round 5;", 1);
        due("MILES", v.has(0), 5);
        due("EARS", v.has(1), 0);
        due("PLACES", v.has(2), 0);
    }

    static void promise04_house_theFullestHouse() {
        String text = "round 200;voice 199;hush 9;cough 100;" + ears(7) + places(6) + "goes 99;hears all;talks 20;";
        Voice v = stands(text + "voice 198;".repeat(40), 60);
        due("EARS", v.has(1), 7);
        due("PLACES", v.has(2), 6);
        due("the last EAR", v.letter(0, 6, 0), 7);
        due("the last PLACE", v.place(5, 0), 6);
        due("voice", v.has(4), 198);
    }

    static void promise04_house_aTextOf1600Bytes() {
        Voice v = new Voice();
        due("house", v.tell(filled("round 5;", 1592) + "voice 4;"), 2);
        due("voice", v.has(4), 4);
    }

    static void promise04_house_withAFaultAllStays() {
        Voice v = Voice.lived();
        due("the latest FAULT", v.fault(0), 4);
        v.refuses(1, "house()", () -> v.tell("round 4;"));
    }

    static void promise04_house_withAFaultAtItsEndAllStays() {
        Voice v = Voice.lived();
        String text = "round 9;voice 3;hush 1;" + ears(3) + places(3) + "goes 9;hears all;talks 9;";
        Map<String, Integer> due = v.seen();
        due("house()", v.tell(text + "x"), -1);
        due.merge("status 1", 1, Integer::sum);
        due.put("fault 0", 1);
        due.put("fault 1", text.length());
        Voice.same("house() changes its FAULT and status 1 alone", v.seen(), due);
    }

    static void promise04_house_theTapeGoesWithAFault() {
        Voice v = new Voice();
        v.tell("round 4;");
        due("the tape is empty", v.tapeIsEmpty(), true);
        due("the next text begins anew", v.tell("round 6;"), 1);
    }

    static void promise04_house_theTapeGoesWithoutOne() {
        Voice v = new Voice();
        v.tell("round 6;");
        due("the tape is empty", v.tapeIsEmpty(), true);
        due("no text", v.house(), -1);
        due("the house stays", v.has(0), 6);
    }

    static void promise04_house_againAllIsAsAtFirst() {
        Voice v = Voice.lived();
        due("house", v.tell(Voice.HOME), 11);
        Voice fresh = Voice.of(Voice.HOME);
        for (int what = 0; what < 12; what++) {
            due("has " + what, v.has(what), fresh.has(what));
        }
        due("row", v.ear(1, 0), 1);
        due("talk", v.place(1, 1), 0);
    }

    static void promise04_house_nothingIsKeptMarkedOrUndone() {
        Voice v = Voice.lived();
        v.tell(Voice.HOME);
        due("KEPT", v.has(9), 0);
        due("kept(0, 0)", v.kept(0, 0), -1);
        due("MARKED", v.has(10), 0);
        due("all MILES", v.miles(-1), 20);
        due("ACTS", v.has(11), 0);
        due("undo", v.undo(), false);
        due("night", v.has(3), 0);
    }

    static void promise04_house_whileItTalksItTalksWithNobodyThen() {
        Voice v = Voice.at("round 9;place p at 4 talk 3;", 5, 4, 6, 20, 7, 3);
        v.tell("round 9;place p at 4 talk 3;");
        int[] want = {0, 0, 0, 0, 0};
        for (int i = 0; i < want.length; i++) {
            due("has " + (i + 3), v.has(i + 3), want[i]);
        }
        due("it goes on", v.later(1, 0), 1);
    }

    static void promise04_house_theSeedStays() {
        Voice v = Voice.lived();
        int seed = v.has(12);
        v.tell("round 9;");
        due("without a FAULT", v.has(12), seed);
        v.tell("round");
        due("with one", v.has(12), seed);
    }

    static void promise04_house_refusalsAndImageStay() {
        Voice v = Voice.lived();
        int octet = v.octet(3);
        v.tell("round 9;");
        due("status 0", v.status(0), 1);
        due("status 1", v.status(1), 1);
        due("status 2", v.status(2), 1);
        due("status 3", v.status(3), 1);
        due("status 5", v.status(5), 1);
        due("the latest image", v.octet(3), octet);
        due("its length", v.octet(13), -1);
        due("its last byte", v.octet(12) >= 0, true);
    }

    static void promise04_house_fewerEarsAndPlacesThanBefore() {
        Voice v = Voice.of("round 9;" + ears(7) + places(6));
        v.tell("round 9;" + ears(1) + places(1));
        due("EAR 0", v.ear(0, 0), 1);
        due("EAR 1", v.ear(1, 0), -1);
        due("PLACE 0", v.place(0, 0), 1);
        due("PLACE 1", v.place(1, 0), -1);
        due("image", v.image(), 11);
        v.tell("round 9;");
        due("no EAR", v.ear(0, 0), -1);
        due("no PLACE", v.place(0, 0), -1);
    }

    static void promise04_house_rulesOfTheFormerOneAreGone() {
        Voice v = Voice.of("round 40;ear a row 0 sharp 0;place p at 20 talk 3;goes 9;hears not all;talks 7;");
        v.tell("round 40;ear a row 0 sharp 0;place p at 20 talk 3;");
        due("goes", v.stride(), 1);
        due("hears", v.ear(0, 2), 1);
        due("talks", v.place(0, 2), 3);
    }

    // ---- promise 5: fault

    static void promise05_fault_aheadOfAnyHouse() {
        Voice v = new Voice();
        due("0", v.fault(0), 0);
        due("1", v.fault(1), -1);
    }

    static void promise05_fault_without() {
        Voice v = Voice.of("round 9;");
        due("0", v.fault(0), 0);
        due("1", v.fault(1), -1);
    }

    static void promise05_fault_ofTheLatestHouse() {
        Voice v = new Voice();
        v.tell("round 4;");
        due("4", v.fault(0), 4);
        due("at 6", v.fault(1), 6);
        v.tell("x");
        due("1", v.fault(0), 1);
        due("at 0", v.fault(1), 0);
        v.tell("round 5;");
        due("without", v.fault(0), 0);
        due("without", v.fault(1), -1);
        v.tell("round 5;goes 1;goes 1;");
        due("6", v.fault(0), 6);
        due("at 15", v.fault(1), 15);
    }

    static void promise05_fault_otherWhatIsNone() {
        Voice v = Voice.lived();
        v.answersNone("fault(-1)", () -> v.fault(-1));
        v.answersNone("fault(2)", () -> v.fault(2));
        due("lowest", v.fault(LOW), -1);
        due("highest", v.fault(HIGH), -1);
    }

    static void promise05_fault_atByte1600() {
        fault(1, filled("round", 1599) + "5^");
    }

    static void promise05_fault_atByte1599() {
        fault(1, filled("round 5;", 1599) + "^;");
    }

    // ---- promise 7: letter

    static void promise07_letter_firstAndLastOfSix() {
        Voice v = Voice.of("round 9;ear abcxyz row 0 sharp 0;");
        due("letter 0", v.letter(0, 0, 0), 1);
        due("letter 4", v.letter(0, 0, 4), 25);
        due("letter 5", v.letter(0, 0, 5), 26);
    }

    static void promise07_letter_0BehindTheName() {
        Voice v = Voice.of("round 9;ear z row 0 sharp 0;place ab at 1 talk 0;");
        due("letter 0 of the EAR", v.letter(0, 0, 0), 26);
        due("letter 1 of the EAR", v.letter(0, 0, 1), 0);
        due("letter 5 of the EAR", v.letter(0, 0, 5), 0);
        due("letter 1 of the PLACE", v.letter(1, 0, 1), 2);
        due("letter 2 of the PLACE", v.letter(1, 0, 2), 0);
    }

    static void promise07_letter_aboveAndBelowTheirRange() {
        Voice v = Voice.lived();
        v.answersNone("letter 6", () -> v.letter(0, 0, 6));
        v.answersNone("letter -1", () -> v.letter(0, 0, -1));
        due("of a PLACE, 6", v.letter(1, 0, 6), -1);
        due("of a PLACE, -1", v.letter(1, 0, -1), -1);
        due("highest", v.letter(0, 0, HIGH), -1);
        due("lowest", v.letter(0, 0, LOW), -1);
    }

    static void promise07_letter_ofNoneSuch() {
        Voice v = Voice.of("round 9;" + ears(2) + places(3));
        due("EAR 1", v.letter(0, 1, 0), 2);
        due("EAR 2", v.letter(0, 2, 0), -1);
        due("EAR -1", v.letter(0, -1, 0), -1);
        due("PLACE 2", v.letter(1, 2, 0), 18);
        due("PLACE 3", v.letter(1, 3, 0), -1);
        due("PLACE -1", v.letter(1, -1, 0), -1);
        due("lowest", v.letter(0, LOW, 0), -1);
        due("highest", v.letter(1, HIGH, 0), -1);
    }

    static void promise07_letter_ofTheLastEarAndPlace() {
        Voice v = Voice.of("round 9;" + ears(7) + places(6));
        due("EAR 6", v.letter(0, 6, 0), 7);
        due("EAR 7", v.letter(0, 7, 0), -1);
        due("PLACE 5", v.letter(1, 5, 0), 21);
        due("PLACE 6", v.letter(1, 6, 0), -1);
    }

    static void promise07_letter_ofNoKind() {
        Voice v = Voice.lived();
        v.answersNone("kind 2", () -> v.letter(2, 0, 0));
        v.answersNone("kind -1", () -> v.letter(-1, 0, 0));
    }

    static void promise07_letter_withoutAHouse() {
        Voice v = new Voice();
        due("EAR", v.letter(0, 0, 0), -1);
        due("PLACE", v.letter(1, 0, 0), -1);
        due("none refused", v.status(1), 0);
    }

    // ---- terms I: the STATEMENTS

    static void term1_statements_60AreTheMost() {
        stands("round 5;" + "hush 1;".repeat(59), 60);
    }

    static void term1_statements_60WithBlanksBehind() {
        stands("round 5;" + "hush 1;".repeat(59) + " \n ", 60);
    }

    static void term1_statements_the61stIsFault6() {
        fault(6, "round 5;" + "hush 1;".repeat(59) + "^hush 1;");
    }

    static void term1_statements_the61stIsFault6WhateverItIs() {
        String sixty = "round 5;" + "hush 1;".repeat(59);
        fault(6, sixty + "^round 5;");
        fault(6, sixty + " ^voice 99;");
        fault(6, sixty + "^ear a row 1 sharp 1;");
        fault(6, sixty + "^goes 1;");
        fault(6, sixty + "\n^nonsen");
    }

    static void term1_statements_noneIsFault1AtTheLength() {
        fault(1, "^");
        fault(1, "  \n^");
    }

    static void term1_round_5IsTheLeast() {
        due("MILES", stands("round 5;", 1).has(0), 5);
    }

    static void term1_round_4IsFault4() {
        fault(4, "round ^4;");
        fault(4, "round ^0;");
    }

    static void term1_round_200IsTheMost() {
        due("MILES", stands("round 200;", 1).has(0), 200);
    }

    static void term1_round_201IsFault4() {
        fault(4, "round ^201;");
        fault(4, "round ^9999;");
    }

    static void term1_round_mustBeTheFirst() {
        fault(1, "^voice 1;round 5;");
        fault(1, "^hush 1;");
        fault(1, "^;round 5;");
    }

    static void term1_round_alone() {
        fault(1, "round 5;^round 5;");
        fault(1, "round 5;voice 1;^round 5;");
        fault(1, "round 5;" + "hush 1;".repeat(58) + "^round 5;");
    }

    static void term1_voice_0IsTheFirstMile() {
        due("MILE", stands("round 5;voice 3;voice 0;", 3).has(4), 0);
    }

    static void term1_voice_oneBelowTheRoundIsTheLast() {
        due("MILE 4 of 5", stands("round 5;voice 4;", 2).has(4), 4);
        due("MILE 199 of 200", stands("round 200;voice 199;", 2).has(4), 199);
    }

    static void term1_voice_theRoundItselfIsFault4() {
        fault(4, "round 5;voice ^5;");
        fault(4, "round 200;voice ^200;");
    }

    static void term1_voice_withoutItIs0() {
        due("MILE", stands("round 9;", 1).has(4), 0);
    }

    static void term1_voice_theLastOneCounts() {
        due("MILE", stands("round 9;voice 8;voice 2;hush 1;voice 5;", 5).has(4), 5);
    }

    static void term1_hush_0And9AreTheEdges() {
        due("0", stands("round 5;hush 0;", 2).has(7), 0);
        due("9", stands("round 5;hush 9;", 2).has(7), 9);
    }

    static void term1_hush_10IsFault4() {
        fault(4, "round 5;hush ^10;");
    }

    static void term1_hush_withoutItIs0() {
        due("hush", stands("round 9;cough 7;", 2).has(7), 0);
    }

    static void term1_hush_theLastOneCounts() {
        due("hush", stands("round 9;hush 8;hush 2;", 3).has(7), 2);
    }

    static void term1_cough_0NeverComes() {
        due("coughs", stands("round 9;cough 0;", 2).chance(60), 0);
    }

    static void term1_cough_100AlwaysComes() {
        due("coughs", stands("round 9;cough 100;", 2).chance(60), 60);
    }

    static void term1_cough_101IsFault4() {
        fault(4, "round 9;cough ^101;");
    }

    static void term1_cough_withoutItIs0() {
        due("coughs", stands("round 9;", 1).chance(60), 0);
    }

    static void term1_cough_theLastOneCounts() {
        due("coughs", stands("round 9;cough 100;cough 0;", 3).chance(20), 0);
        due("coughs", stands("round 9;cough 0;cough 100;", 3).chance(20), 20);
    }

    static void term1_ear_row0And9AreTheEdges() {
        due("0", stands("round 9;ear a row 0 sharp 5;", 2).ear(0, 0), 0);
        due("9", stands("round 9;ear a row 9 sharp 5;", 2).ear(0, 0), 9);
    }

    static void term1_ear_row10IsFault4() {
        fault(4, "round 9;ear a row ^10 sharp 5;");
    }

    static void term1_ear_sharp0And9AreTheEdges() {
        due("0", stands("round 9;ear a row 5 sharp 0;", 2).ear(0, 1), 0);
        due("9", stands("round 9;ear a row 5 sharp 9;", 2).ear(0, 1), 9);
    }

    static void term1_ear_sharp10IsFault4() {
        fault(4, "round 9;ear a row 5 sharp ^10;");
    }

    static void term1_ear_likeRowsMayBe() {
        due("EARS", stands("round 9;ear a row 5 sharp 5;ear b row 5 sharp 5;", 3).has(1), 2);
    }

    static void term1_ear_7AreTheMost() {
        due("EARS", stands("round 9;" + ears(7), 8).has(1), 7);
    }

    static void term1_ear_the8thIsFault6() {
        fault(6, "round 9;" + ears(7) + "^ear h row 1 sharp 1;");
        fault(6, "round 9;" + ears(4) + places(2) + ears(7).substring(ears(4).length()) + "hush 1;\n^ear");
    }

    static void term1_place_at1IsTheFirst() {
        due("MILE", stands("round 5;place p at 1 talk 0;", 2).place(0, 0), 1);
    }

    static void term1_place_at0IsFault4() {
        fault(4, "round 5;place p at ^0 talk 0;");
    }

    static void term1_place_oneBelowTheRoundIsTheLast() {
        due("MILE", stands("round 5;place p at 4 talk 0;", 2).place(0, 0), 4);
        due("MILE", stands("round 200;place p at 199 talk 0;", 2).place(0, 0), 199);
    }

    static void term1_place_atTheRoundIsFault4() {
        fault(4, "round 5;place p at ^5 talk 0;");
        fault(4, "round 200;place p at ^200 talk 0;");
    }

    static void term1_place_whereOneIsAlreadyIsFault4() {
        fault(4, "round 9;place p at 3 talk 0;place q at ^3 talk 1;");
        fault(4, "round 9;place p at 3 talk 0;place r at 4 talk 0;place q at ^003 talk 1;");
    }

    static void term1_place_nextToOneMayBe() {
        stands("round 9;place p at 3 talk 0;place q at 2 talk 0;place r at 4 talk 0;", 4);
    }

    static void term1_place_whereTheVoiceIsMayBe() {
        stands("round 9;voice 3;place p at 3 talk 0;", 3);
    }

    static void term1_place_talk0And9AreTheEdges() {
        due("0", stands("round 9;place p at 3 talk 0;", 2).place(0, 1), 0);
        due("9", stands("round 9;place p at 3 talk 9;", 2).place(0, 1), 9);
    }

    static void term1_place_talk10IsFault4() {
        fault(4, "round 9;place p at 3 talk ^10;");
    }

    static void term1_place_6AreTheMost() {
        due("PLACES", stands("round 9;" + places(6), 7).has(2), 6);
    }

    static void term1_place_the7thIsFault6() {
        fault(6, "round 9;" + places(6) + "^place v at 7 talk 1;");
        fault(6, "round 9;" + places(6) + ears(1) + "  ^place");
    }

    static void term1_goes_aSecondIsFault6() {
        stands("round 9;goes 1;hears all;talks 1;", 4);
        fault(6, "round 9;goes 1;hears all;^goes 1;");
    }

    static void term1_hears_aSecondIsFault6() {
        fault(6, "round 9;hears all;talks 1;^hears all;");
    }

    static void term1_talks_aSecondIsFault6() {
        fault(6, "round 9;talks 1;goes 1;^talks 1;");
    }

    // ---- terms I: SUMS and TESTS

    static void term1_sum_fromTheLeftOn() {
        sum("20-3-2", 15);
        sum("20-3+2", 19);
        sum("99/5/2", 9);
        sum("7/2*2", 6);
        sum("7*2/4", 3);
        sum("50%30%7", 6);
    }

    static void term1_sum_productsAheadOfSums() {
        sum("2+3*4", 14);
        sum("20-9/2", 16);
        sum("(2+3)*4", 20);
    }

    static void term1_sum_divisionGivesTheGreatestNotAbove() {
        sum("6/2", 3);
        sum("7/2", 3);
        sum("1/9999", 0);
        sum("50+(0-6)/2", 47);
        sum("50+(0-7)/2", 46);
        sum("50+(0-1)/9999", 49);
        sum("50+7/(0-2)", 46);
        sum("50+(0-7)/(0-2)", 53);
    }

    static void term1_sum_whatIsLeft() {
        sum("6%2", 0);
        sum("7%2", 1);
        sum("50+(0-6)%2", 50);
        sum("50+(0-7)%3", 52);
        sum("50+7%(0-3)", 48);
        sum("50+(0-7)%(0-3)", 49);
        sum("(0-1)%9999-9900", 98);
    }

    static void term1_sum_by0BothGive0() {
        sum("50+7/0", 50);
        sum("50+7%0", 50);
        sum("50+0/0", 50);
        sum("50+0%0", 50);
        sum("50+(0-7)/0", 50);
        sum("50+(0-7)%0", 50);
        sum("50+7/(3-3)", 50);
    }

    static void term1_sum_10ToThe6IsItself() {
        sum("1000*1000-(999*1000+999)", 1);
        sum("999*1000+1000-(999*1000+998)", 2);
    }

    static void term1_sum_above10ToThe6IsThat() {
        sum("1000*1000+1-(999*1000+999)", 1);
        sum("9999*9999-(999*1000+999)", 1);
        sum("1000*1000*(1000*1000)-(999*1000+999)", 1);
        sum("0-(0-1000*1000)*9999+0-(999*1000+999)", 1);
        sum("(0-1000*1000)*(0-1000*1000)-(999*1000+999)", 1);
        sum("0+1000*1000-(0-9)-(999*1000+999)", 1);
    }

    static void term1_sum_minus10ToThe6IsItself() {
        sum("0-1000*1000+999*1000+999+8", 7);
        sum("0-1000*1000+1000*1000+7", 7);
    }

    static void term1_sum_belowMinus10ToThe6IsThat() {
        sum("0-1000*1000-1+1000*1000+7", 7);
        sum("(0-1000*1000)*(1000*1000)+1000*1000+5", 5);
        sum("(0-9999)*9999+1000*1000+5", 5);
    }

    static void term1_sum_eachResultIsCutNotTheLastAlone() {
        sum("9999*9999*9999/9999-99", 1);
        sum("9999*9999-9999*9999+3", 3);
    }

    static void term1_sum_minAndMaxOfLikeOnes() {
        sum("min(4,4)", 4);
        sum("max(4,4)", 4);
        sum("min(4,5)+10*min(5,4)", 44);
        sum("max(4,5)+10*max(5,4)", 55);
        sum("50+min(0-1,1)", 49);
        sum("50+max(0-1,0-2)", 49);
    }

    static void term1_sum_ifTakesTheFirstWhereTheTestHolds() {
        sum("if(all,1,2)", 1);
        sum("if(not all,1,2)", 2);
        sum("if(1>2,3,if(2>1,4,5))", 4);
    }

    static void term1_sum_aPartAloneAndTheLongestRow() {
        sum("0", 0);
        sum("0000", 0);
        sum("0099", 99);
        sum("1" + "+1".repeat(80), 81);
        sum("1" + "*1".repeat(80), 1);
    }

    static void term1_sum_theLongestThatATapeHolds() {
        String head = "round 9;goes 1";
        Voice v = stands(head + "+0".repeat((1600 - head.length() - 1) / 2) + ";", 2);
        due("stride", v.stride(), 1);
    }

    static void term1_sum_deepestRowsOfWhatMustWait() {
        String deep = "if(1=2 or 1=1 and 1<2+1*(";
        sum(deep + "1),1+1*if(1=2 or 1=1 and 1<2+1*(0+1*(0+1*if(1=2 or 1=1 and 2>0+1*max(0,0+1*1),7,8))),6,7),8)", 7);
    }

    static void term1_test_smaller() {
        test("1<2", true);
        test("2<2", false);
        test("3<2", false);
        test("0-1<0", true);
    }

    static void term1_test_greater() {
        test("2>1", true);
        test("2>2", false);
        test("1>2", false);
        test("0>0-1", true);
    }

    static void term1_test_alike() {
        test("2=2", true);
        test("1=2", false);
        test("3=2", false);
        test("0-1=1", false);
    }

    static void term1_test_andAheadOfOr() {
        test("all or all and not all", true);
        test("not all and all or all", true);
        test("[all or all] and not all", false);
        test("not all or not all", false);
        test("all and all", true);
        test("all and not all", false);
    }

    static void term1_test_notOfOneFactAlone() {
        test("not all or all", true);
        test("not [all or all]", false);
        test("not 1=2 and 1=2", false);
        test("not not all", true);
    }

    static void term1_test_notOfEachSign() {
        test("not 1<2", false);
        test("not 2<2", true);
        test("not 2>1", false);
        test("not 2>2", true);
        test("not 2=2", false);
        test("not 1=2", true);
        test("not all", false);
        test("not [1<2 or 1<2]", false);
        test("not [1<2 and 2>1]", false);
    }

    static void term1_test_needsASignAndTwoSums() {
        fault(1, "round 9;hears 1^;");
        fault(1, "round 9;hears (1)^;");
        fault(1, "round 9;hears ^;");
        fault(1, "round 9;hears ^<1;");
        fault(1, "round 9;hears 1<^;");
        fault(1, "round 9;hears 1<2^<3;");
        fault(1, "round 9;hears 1<^=2;");
        fault(1, "round 9;hears all^<1;");
        fault(1, "round 9;hears (^all);");
        fault(1, "round 9;goes if(1^,2,3);");
    }

    static void term1_sum_noEmptyOnes() {
        fault(1, "round 9;goes ^;");
        fault(1, "round 9;talks ^;");
        fault(1, "round 9;goes (^);");
        fault(1, "round 9;goes 1+^;");
        fault(1, "round 9;goes 1*^;");
        fault(1, "round 9;goes ^*1;");
        fault(1, "round 9;goes 1+^+1;");
        fault(1, "round 9;hears [^];");
    }

    static void term1_sum_minMaxIfTakeAsManyAsTold() {
        for (String word : new String[] {"min", "max"}) {
            fault(1, "round 9;goes " + word + "^;");
            fault(1, "round 9;goes " + word + " ^1;");
            fault(1, "round 9;goes " + word + "^[1,2];");
            fault(1, "round 9;goes " + word + "(^);");
            fault(1, "round 9;goes " + word + "(1^);");
            fault(1, "round 9;goes " + word + "(1,^);");
            fault(1, "round 9;goes " + word + "(1,2^,3);");
        }
        fault(1, "round 9;goes if^;");
        fault(1, "round 9;goes if ^all;");
        fault(1, "round 9;goes if(all^);");
        fault(1, "round 9;goes if(all,1^);");
        fault(1, "round 9;goes if(all,1,^);");
        fault(1, "round 9;goes if(all,1,2^,3);");
    }

    static void term1_sum_everyBracketIsClosedByItsOwn() {
        fault(1, "round 9;goes (1^];");
        fault(1, "round 9;goes (1^;");
        fault(1, "round 9;goes 1^);");
        fault(1, "round 9;goes (1)^);");
        fault(1, "round 9;goes ^[1];");
        fault(1, "round 9;hears [all^);");
        fault(1, "round 9;hears [all^;");
        fault(1, "round 9;hears all^];");
        fault(1, "round 9;hears (1^=1);");
    }

    static void term1_part_ofGoesAlone() {
        sum("mile", 7);
        sum("rounds", 0);
        fault(1, "round 9;hears ^mile=1;");
        fault(1, "round 9;hears ^rounds=1;");
        fault(1, "round 9;talks ^mile;");
        fault(1, "round 9;talks ^rounds;");
    }

    static void term1_part_ofHearsAlone() {
        stands("round 9;hears sharp+row+far=0;", 2);
        for (String word : new String[] {"sharp", "row", "far"}) {
            fault(1, "round 9;goes ^" + word + ";");
            fault(1, "round 9;talks ^" + word + ";");
        }
    }

    static void term1_part_ofTalksAlone() {
        stands("round 9;talks talk;", 2);
        fault(1, "round 9;goes ^talk;");
        fault(1, "round 9;hears ^talk=1;");
    }

    static void term1_part_nightAndHushInAll() {
        stands("round 9;goes night+hush;hears night=hush;talks night+hush;", 4);
    }

    static void term1_part_inAnIfTestTheSameOnes() {
        sum("if(mile=7 and rounds=0 and night=0 and hush=3,1,2)", 1);
        fault(1, "round 9;goes if(^far=1,1,2);");
        fault(1, "round 9;talks if(talk=1 and ^mile=1,1,2);");
        stands("round 9;hears if(far=1,sharp,row)=1;", 2);
    }

    // ---- terms I: NAMES, NUMBERS, blanks

    static void term1_name_1LetterIsTheLeast() {
        stands("round 9;ear a row 0 sharp 0;place z at 1 talk 0;", 3);
        fault(1, "round 9;ear ^;");
        fault(1, "round 9;place ^1 at 1 talk 0;");
    }

    static void term1_name_6LettersAreTheMost() {
        stands("round 9;ear abcdef row 0 sharp 0;place uvwxyz at 1 talk 0;", 3);
    }

    static void term1_name_the7thLetterIsFault1AtItself() {
        fault(1, "round 9;ear abcdef^g row 0 sharp 0;");
        fault(1, "round 9;place abcdef^ghij at 1 talk 0;");
    }

    static void term1_name_unlikeOnesOfTheSameSort() {
        fault(2, "round 9;ear ab row 0 sharp 0;ear ^ab row 1 sharp 1;");
        fault(2, "round 9;place ab at 1 talk 0;place ^ab at 2 talk 0;");
        fault(2, "round 9;ear uvwxyz row 0 sharp 0;ear b row 1 sharp 1;ear ^uvwxyz");
    }

    static void term1_name_unlikeOnesOfBothSorts() {
        fault(2, "round 9;ear ab row 0 sharp 0;place ^ab at 1 talk 0;");
        fault(2, "round 9;place ab at 1 talk 0;ear ^ab row 0 sharp 0;");
    }

    static void term1_name_unlikeInOneLetterOrInLength() {
        stands("round 9;ear abcdef row 0 sharp 0;ear abcdeg row 0 sharp 0;ear bbcdef row 0 sharp 0;ear abcde row 0 sharp 0;"
                + "place bcdef at 1 talk 0;place a at 2 talk 0;place aa at 3 talk 0;", 8);
    }

    static void term1_name_smallLettersAlone() {
        fault(1, "round 9;ear ^A row 0 sharp 0;");
        fault(1, "round 9;ear a^Z row 0 sharp 0;");
        fault(1, "round 9;ear a^` row 0 sharp 0;");
        fault(1, "round 9;ear a^{ row 0 sharp 0;");
        fault(1, "round 9;ear a^_ row 0 sharp 0;");
        fault(1, "round 9;ear ^\u00e9 row 0 sharp 0;");
    }

    static void term1_name_noOwnWordIsOne() {
        for (String own : OWN_WORDS.split(" ")) {
            fault(1, "round 9;ear ^" + own + " row 0 sharp 0;");
            fault(1, "round 9;place ^" + own + " at 1 talk 0;");
        }
    }

    static void term1_name_almostAnOwnWordIsOne() {
        for (String own : OWN_WORDS.split(" ")) {
            String shorter = own.substring(0, own.length() - 1);
            String longer = own.length() < 6 ? own + "q" : "q" + shorter;
            stands("round 9;ear " + longer + " row 0 sharp 0;", 2);
            if (!(" " + OWN_WORDS + " ").contains(" " + shorter + " ")) {
                stands("round 9;place " + shorter + " at 1 talk 0;", 2);
            }
        }
    }

    static void term1_number_1To4Digits() {
        due("1 digit", stands("round 5;", 1).has(0), 5);
        due("2 digits", stands("round 05;", 1).has(0), 5);
        due("3 digits", stands("round 005;", 1).has(0), 5);
        due("4 digits", stands("round 0005;", 1).has(0), 5);
        sum("9999-9900", 99);
    }

    static void term1_number_the5thDigitIsFault1AtItself() {
        fault(1, "round 0000^5;");
        fault(1, "round 1234^56;");
        fault(1, "round 9;goes 0000^0;");
    }

    static void term1_number_allTenDigitsAndTheirNeighbours() {
        sum("1234-1200", 34);
        sum("5678-5600", 78);
        sum("90", 90);
        fault(1, "round 9;goes 1^:;");
        fault(1, "round 9;goes 1^.5;");
    }

    static void term1_number_noSignAheadOfIt() {
        fault(1, "round ^-5;");
        fault(1, "round ^+5;");
        fault(1, "round 9;goes ^-1;");
        fault(1, "round 9;goes 1+^-1;");
    }

    static void term1_blank_10And32WhereOneLikes() {
        due("MILES", stands("\n round \n 20 ; voice\n7\n;", 2).has(0), 20);
        stands(" round\n9 ; ear\n\na row 1  sharp\n1;place b at 1 talk 1 ; goes ( 1 + min ( 2 , 3 ) ) * 4 ; hears not [ all ] ; ", 5);
    }

    static void term1_blank_noneIsNeededAroundSigns() {
        stands("round 9;hears(1)<(2)or[all]and not[all]or not(1)=min(2,3);goes(1)+if(1=2,3,4);", 3);
    }

    static void term1_blank_noOtherByteIsOne() {
        for (int octet : new int[] {0, 9, 11, 12, 13, 31, 127, 128, 160, 255}) {
            fault(1, "round 5;^" + (char) octet);
            fault(1, "^" + (char) octet + "round 5;");
            fault(1, "round^" + (char) octet + "5;");
        }
    }

    static void term1_blank_neededBetweenWordsAndNumbers() {
        fault(1, "round^5;");
        fault(1, "round 9;ear a row^1 sharp 1;");
        fault(1, "round 9;ear a row 1^sharp 1;");
        fault(1, "round 9;ear a^1");
        fault(1, "round 9;hears 1=1^or all;");
        fault(1, "round 9;hears 1=1 or^1=1;");
    }

    static void term1_blank_neededBetweenWords() {
        fault(1, "^roundx 5;");
        fault(1, "round 9;hears ^notall;");
        fault(1, "round 9;^eara row 1 sharp 1;");
    }

    static void term1_blank_splitsWordsAndNumbers() {
        fault(1, "^rou nd 5;");
        fault(1, "round 10 ^0;");
        fault(1, "round 9;ear a ^b row 1 sharp 1;");
    }

    // ---- terms I: FAULTS

    static void term1_fault_1AtTheLengthIfItEndsTooSoon() {
        String[] pieces = {"round", " 9", ";", "ear", " ab", " row", " 1", " sharp", " 2", ";", "place", " cd", " at", " 3", " talk",
            " 4", ";", "goes", "(", "mile", "+", "1", ")", "*", "2", ";", "hears", " not", "[", "all", " or", " far", "<", "9", "]", ";",
            "talks", " max", "(", "talk", ",", "if", "(", "1", "=", "1", ",", "2", ",", "3", ")", ")", ";", "voice", " 1", ";", "hush",
            " 1", ";", "cough", " 1", ";"};
        StringBuilder text = new StringBuilder();
        int statements = 0;
        for (String piece : pieces) {
            text.append(piece);
            if (piece.equals(";")) {
                statements++;
                stands(text.toString(), statements);
            } else {
                fault(1, text + "^");
                fault(1, text + " \n^");
            }
        }
    }

    static void term1_fault_1WordsWholeAtTheirFirstByte() {
        fault(1, "^roun 5;");
        fault(1, "^rounds 5;");
        fault(1, "round 5;^voic 1;");
        fault(1, "round 9;ear a ^rows 1;");
    }

    static void term1_fault_1NumbersWholeAtTheirFirstByte() {
        fault(1, "^1234");
        fault(1, "round 5;^1234;");
        fault(1, "round 5 ^1234;");
    }

    static void term1_fault_1The7thLetterWhateverMayStandThere() {
        fault(1, "abcdef^g");
        fault(1, "round abcdef^g");
        fault(1, "round 5 abcdef^g");
        fault(1, "round 5;abcdef^g");
        fault(1, "round 9;goes abcdef^g;");
        fault(1, "round 9;goes 1+(abcdef^g");
        fault(1, "round 9;ear a row 1 sharpe^r");
    }

    static void term1_fault_1The5thDigitWhateverMayStandThere() {
        fault(1, "1234^5");
        fault(1, "round 5 1234^5");
        fault(1, "round 5;1234^5");
        fault(1, "round 5;ear 1234^5");
        fault(1, "round 9;goes 1 1234^5");
    }

    static void term1_fault_1AMissingBlankAheadOfTheLength() {
        fault(1, "round^12345;");
        fault(1, "round 5;ear a row 1^abcdefgh");
        fault(1, "round 9;goes 1^abcdefg");
    }

    static void term1_fault_2AtTheFirstByteOfTheName() {
        fault(2, "round 9;ear abcdef row 0 sharp 0;ear  \n^abcdef");
    }

    static void term1_fault_4AtTheFirstByteOfTheNumber() {
        fault(4, "round  \n^0201;");
        fault(4, "round ^4");
        fault(4, "round ^4abcdefg");
    }

    static void term1_fault_57OpenAreTheMost() {
        sum("(((((((6)))))))", 6);
        sum("min(max((((((6))))),0),9)", 6);
        test("not not not not not not all", true);
        test("[[[[[[all]]]]]]", true);
        stands("round 9;hears not not not not not not not all;", 2);
        stands("round 9;hears [[[[[[[all]]]]]]];", 2);
        stands("round 9;hears not [not [not [(1)=1]]];", 2);
    }

    static void term1_fault_5The8thOpenRoundBracket() {
        fault(5, "round 9;goes (((((((^(6))))))));");
        fault(5, "round 9;talks (((((((^(");
        fault(5, "round 9;goes min(max((((((^(6))))),0),9);");
        fault(5, "round 9;goes (((((((min^(");
        fault(5, "round 9;goes (((((((max^(");
        fault(5, "round 9;goes (((((((if ^(");
    }

    static void term1_fault_5The8thOpenSquareBracket() {
        fault(5, "round 9;hears [[[[[[[^[all]]]]]]]];");
        fault(5, "round 9;goes if([[[[[[^[all");
    }

    static void term1_fault_5The8thOpenNot() {
        fault(5, "round 9;hears not not not not not not not ^not all;");
        fault(5, "round 9;hears not[not[not[not ^not all");
        fault(5, "round 9;goes ((((((if(^not all");
    }

    static void term1_fault_5NotIsOpenUntilItsFactEnds() {
        stands("round 9;hears not not not not not not 1<(2) and not not not not not not 1<(2);", 2);
        fault(5, "round 9;hears not not not not not not not 1<^(2);");
        fault(5, "round 9;hears not not not not not not not ^(1)<2;");
        stands("round 9;hears not not not not not not not 1<2 or (1)<2;", 2);
        stands("round 9;hears not not not not not not not all and not not not not not not not all;", 2);
    }

    static void term1_fault_5WhatIsClosedIsNotOpen() {
        stands("round 9;goes (((((((1)))))))+(((((((1)))))))*min(1,max(1,1));", 2);
        stands("round 9;goes (((((((1)))))));hears [[[[[[[all]]]]]]];talks (((((((1)))))));", 4);
        stands("round 9;goes " + "(1)+".repeat(30) + "1;", 2);
        stands("round 9;goes " + "min(1,2)+".repeat(30) + "1;", 2);
        stands("round 9;goes " + "if(all,1,2)+".repeat(30) + "1;", 2);
        stands("round 9;hears " + "[all] and ".repeat(30) + "all;", 2);
        stands("round 9;hears " + "not all or ".repeat(30) + "all;", 2);
        fault(5, "round 9;goes min(1,2)+(((((((^(1");
        fault(5, "round 9;hears [all] and not all and [[[[[[[^[all");
    }

    static void term1_fault_5FarBeyondTheEighth() {
        fault(5, "round 9;goes (((((((^" + "(".repeat(1500));
        fault(5, "round 9;hears " + "not ".repeat(7) + "^" + "not ".repeat(300));
    }

    static void term1_fault_6AtTheFirstByteOfTheStatement() {
        fault(6, "round 9;goes 1; \n^goes");
        fault(6, "round 9;" + ears(7) + "\n^ear ");
        fault(6, "round 9;" + places(6) + " ^place ;");
    }

    static void term1_fault_theFirstAlongTheText() {
        fault(4, "round ^4;round 4;x");
        fault(1, "round 9;^x;voice 99;");
        fault(2, "round 9;ear a row 1 sharp 1;ear ^a row 10 sharp 10;");
        fault(4, "round 9;ear a row ^10 sharp 10;ear a");
        fault(6, "round 9;" + ears(7) + "^ear a row 10;");
        fault(6, "round 9;goes 1;^goes ((((((((1;");
        fault(5, "round 9;goes (((((((^(1;goes 2;");
        fault(1, "round 9;goes 1^((((((((1;");
        fault(6, "round 9;" + "hush 1;".repeat(59) + "^hush 10;");
        fault(4, "round 9;" + "hush 1;".repeat(58) + "hush ^10;hush 1;");
    }

    public static void main(String[] args) throws IllegalAccessException {
        Edges.run(EdgesTextTest.class);
    }
}
