/** Each promise of the document in turn: ordinary inputs, the edges that it names, wrong inputs. */
public final class PromisesTest {
    private static final String HOME = "round 20;voice 14;hush 3;cough 50;ear top row 9 sharp 8;ear pit row 1 sharp 4;"
            + "place port at 17 talk 2;place isle at 5 talk 0;goes 4+rounds;hears far<sharp+hush-row/4;talks talk+hush/3;";
    private static final int LOW = Integer.MIN_VALUE;
    private static final int HIGH = Integer.MAX_VALUE;

    private PromisesTest() {
    }

    private static void due(String what, long got, long want) {
        Check.due(what, got, want);
    }

    private static void due(String what, boolean got, boolean want) {
        Check.due(what, got, want);
    }

    private static void row(String what, int[] got, int... want) {
        due(what + " length", got.length, want.length);
        for (int i = 0; i < want.length && i < got.length; i++) {
            due(what + " " + i, got[i], want[i]);
        }
    }

    private static int[] state(DistantVoice x) {
        int[] all = new int[9];
        for (int i = 3; i < 12; i++) {
            all[i - 3] = x.has(i);
        }
        return all;
    }

    private static void promise1() {
        DistantVoice x = new DistantVoice();
        for (int i = 0; i < 12; i++) {
            due("1 has " + i, x.has(i), 0);
        }
        due("1 the seed", x.has(12), 1);
        due("1 no image", x.octet(0), -1);
        due("1 the tape is empty", x.end(1), false);
        due("1 NONE", DistantVoice.NONE, -1);
    }

    private static void promise2() {
        DistantVoice x = new DistantVoice();
        for (int i = 1; i <= 80; i++) {
            due("2 feed", x.feed(0x20202020, 0x20202020, 0x20202020, 0x20202020, 0x20202020), 20 * i);
        }
        due("2 feed beyond 1600", x.feed(0, 0, 0, 0, 0), -1);
        due("2 refused", x.status(0), 1);
        due("2 a full tape ends", x.end(1581), true);
        due("2 feed to 1601", x.feed(0, 0, 0, 0, 0), -1);
        due("2 the tape stays", x.end(1582), false);
        due("2 all blanks", x.house(), -1);
        due("2 all blanks are read", x.fault(1), 1581);
        DistantVoice y = new DistantVoice();
        due("2 the highest byte first", y.feed(0x726f756e, 0x6420373b, 0xff000000, 0x80, -1), 20);
        due("2", y.end(8), true);
        due("2 round 7;", y.house(), 1);
        due("2", y.has(0), 7);
        y.feed(0x726f756e, 0x6420373b, 0xff000000, 0x80, -1);
        y.end(9);
        due("2 byte 255", y.house(), -1);
        due("2 byte 255", y.fault(1), 8);
    }

    private static void promise3() {
        DistantVoice x = new DistantVoice();
        due("3 end(0) of nothing", x.end(0), true);
        due("3 below 0", x.end(-1), false);
        due("3 lowest", x.end(LOW), false);
        x.feed(1, 2, 3, 4, 5);
        due("3 one too many", x.end(21), false);
        due("3 as many as there are", x.end(20), true);
        due("3 fewer", x.end(7), true);
        due("3 it has 7 alone", x.end(8), false);
        due("3 behind them", x.feed(0, 0, 0, 0, 0), 27);
        due("3 none", x.end(0), true);
        due("3 highest", x.end(HIGH), false);
        due("3 refused", x.status(0), 5);
    }

    private static void promise4() {
        DistantVoice x = new DistantVoice();
        due("4 the least house", Check.house(x, "round 5;"), 1);
        due("4", x.has(0), 5);
        due("4 without voice", x.has(4), 0);
        due("4 without hush", x.has(7), 0);
        due("4 without goes", x.stride(), 1);
        due("4 the last ones count", Check.house(x, " round\n200 ;voice 3;hush 9;voice 0199;hush 2;cough 100;cough 0;"), 7);
        row("4", new int[] {x.has(0), x.has(4), x.has(7)}, 200, 199, 2);
        x.seed(77);
        Check.house(x, HOME);
        due("4 the seed stays", x.has(12), 77);
        x.nights(3);
        x.hush(8);
        Check.mark(x, 0, 0, 1);
        due("4 with a FAULT", Check.house(x, "round 5"), -1);
        row("4 all stays", state(x), 3, 17, 0, 1, 8, 3, 3, 1, 2);
        due("4 the tape goes", x.end(1), false);
        due("4 house() again", Check.house(x, HOME), 11);
        row("4 all as at first", state(x), 0, 14, 0, 0, 3, 6, 0, 0, 0);
        due("4 the tape goes", x.end(1), false);
        due("4 refused", x.status(1), 1);
        due("4 no ACT", x.undo(), false);
        String full = "round 9;ear a row 0 sharp 0;ear b row 1 sharp 1;ear c row 2 sharp 2;ear d row 3 sharp 3;"
                + "ear e row 4 sharp 4;ear f row 5 sharp 5;ear g row 9 sharp 9;place p at 1 talk 0;place q at 2 talk 1;"
                + "place r at 3 talk 2;place s at 4 talk 3;place t at 5 talk 4;place u at 8 talk 9;";
        due("4 7 EARS, 6 PLACES", Check.house(x, full), 14);
        row("4", new int[] {x.has(1), x.has(2)}, 7, 6);
        due("4 60 STATEMENTS", Check.house(x, "round 5;" + "hush 1;".repeat(59) + " \n"), 60);
    }

    private static void promise5() {
        DistantVoice x = new DistantVoice();
        due("5 ahead of any", x.fault(0), 0);
        due("5 ahead of any", x.fault(1), -1);
        Check.house(x, "round 5;round 5;");
        due("5", x.fault(0), 1);
        due("5", x.fault(1), 8);
        Check.house(x, "round 5;");
        due("5 without", x.fault(0), 0);
        due("5 without", x.fault(1), -1);
        due("5 others", x.fault(2), -1);
        due("5 others", x.fault(-1), -1);
    }

    private static void promise6() {
        DistantVoice x = Check.made(HOME);
        row("6 ahead", new int[] {x.has(0), x.has(1), x.has(2)}, 20, 2, 2);
        due("6 nights", x.nights(5), 5);
        Check.mark(x, 0, 0, 1, 1, 1, 1);
        row("6", state(x), 5, 1, 1, 0, 3, 1, 5, 2, 1);
        x.hush(4);
        row("6", state(x), 5, 1, 1, 0, 4, 1, 5, 2, 2);
        due("6", x.has(12), 1);
        due("6 others", x.has(13), -1);
        due("6 others", x.has(-1), -1);
        due("6 others", x.has(HIGH), -1);
        due("6 without a house", new DistantVoice().has(11), 0);
        DistantVoice y = Check.made("round 9;voice 4;");
        due("6 the shorter way", y.has(8), 4);
        y.nights(1);
        due("6 the other way round", y.has(8), 4);
        y.nights(1);
        due("6", y.has(8), 3);
    }

    private static void promise7() {
        DistantVoice x = Check.made("round 9;ear abcxyz row 0 sharp 0;place q at 1 talk 1;ear z row 1 sharp 1;");
        int[] letters = {1, 2, 3, 24, 25, 26};
        for (int k = 0; k < 6; k++) {
            due("7 letter " + k, x.letter(0, 0, k), letters[k]);
            due("7 of the second", x.letter(0, 1, k), k == 0 ? 26 : 0);
            due("7 of the PLACE", x.letter(1, 0, k), k == 0 ? 17 : 0);
        }
        due("7 no letter", x.letter(0, 0, 6), -1);
        due("7 no letter", x.letter(0, 0, -1), -1);
        due("7 no EAR", x.letter(0, 2, 0), -1);
        due("7 no EAR", x.letter(0, -1, 0), -1);
        due("7 no PLACE", x.letter(1, 1, 0), -1);
        due("7 no kind", x.letter(2, 0, 0), -1);
        due("7 no kind", x.letter(-1, 0, 0), -1);
        due("7 no house", new DistantVoice().letter(0, 0, 0), -1);
    }

    private static void promise8() {
        DistantVoice x = Check.made("round 40;voice 9;hush 2;ear a row 3 sharp 8;ear b row 9 sharp 0;"
                + "hears far+night*10<sharp+hush+row;");
        row("8", new int[] {x.ear(0, 0), x.ear(0, 1), x.ear(0, 2)}, 3, 8, 1);
        row("8", new int[] {x.ear(1, 0), x.ear(1, 1), x.ear(1, 2)}, 9, 0, 1);
        x.sit(0, 0);
        due("8 another row", x.ear(0, 0), 0);
        due("8 by the row now", x.ear(0, 2), 1);
        x.hush(1);
        due("8 by the hush now", x.ear(0, 2), 0);
        due("8 none such", x.ear(2, 0), -1);
        due("8 none such", x.ear(-1, 0), -1);
        due("8 others", x.ear(0, 3), -1);
        due("8 others", x.ear(0, -1), -1);
        DistantVoice y = Check.made("round 19;voice 9;ear a row 0 sharp 0;");
        due("8 without hears, far 9", y.ear(0, 2), 1);
        y.nights(1);
        due("8 far 9 the other way", y.ear(0, 2), 1);
        DistantVoice z = Check.made("round 20;voice 10;ear a row 0 sharp 0;");
        due("8 without hears, far 10", z.ear(0, 2), 0);
    }

    private static void promise9() {
        DistantVoice x = Check.made("round 40;hush 2;place p at 39 talk 9;place q at 1 talk 0;talks talk*3-hush-night;");
        row("9", new int[] {x.place(0, 0), x.place(0, 1), x.place(0, 2)}, 39, 9, 20);
        row("9", new int[] {x.place(1, 0), x.place(1, 1), x.place(1, 2)}, 1, 0, 0);
        x.please(0, 7);
        row("9 another talk", new int[] {x.place(0, 0), x.place(0, 1), x.place(0, 2)}, 39, 7, 19);
        x.nights(1);
        due("9 by the NIGHT", x.place(0, 2), 18);
        x.hush(9);
        due("9 by the hush", x.place(0, 2), 11);
        due("9 none such", x.place(2, 0), -1);
        due("9 none such", x.place(-1, 0), -1);
        due("9 others", x.place(0, 3), -1);
        due("9 others", x.place(0, -1), -1);
        due("9 without talks", Check.made("round 9;place p at 3 talk 8;").place(0, 2), 8);
    }

    private static int stride(String sum) {
        return Check.made("round 9;voice 7;hush 3;goes " + sum + ";").stride();
    }

    private static void promise10() {
        due("10 without a house", new DistantVoice().stride(), -1);
        due("10 without goes", Check.made("round 9;").stride(), 1);
        due("10 below 0", stride("3-5"), 0);
        due("10 above 99", stride("100"), 99);
        due("10 99", stride("99"), 99);
        due("10 from the left", stride("20-3-2"), 15);
        due("10 products first", stride("2+3*4"), 14);
        due("10 products from the left", stride("7/2*2"), 6);
        due("10 ( )", stride("(2+3)*4"), 20);
        due("10 / below 0", stride("50+(0-7)/2"), 46);
        due("10 / by below 0", stride("50+7/(0-2)"), 46);
        due("10 both below 0", stride("50+(0-7)/(0-2)"), 53);
        due("10 % of below 0", stride("50+(0-7)%3"), 52);
        due("10 % by below 0", stride("50+7%(0-3)"), 48);
        due("10 / by 0", stride("50+7/0"), 50);
        due("10 % by 0", stride("50+7%0"), 50);
        due("10 above 10 to the 6", stride("9999*9999-9999*100-50"), 50);
        due("10 each result", stride("9999*9999*9999-9999*100-50"), 50);
        due("10 below -10 to the 6", stride("0-9999*9999-9999*9999+9999*100+150"), 50);
        due("10 min", stride("min(7,3+5)"), 7);
        due("10 max", stride("max(7,3+5)"), 8);
        due("10 if", stride("if(1<2,4,5)"), 4);
        due("10 if not", stride("if(2<1,4,5)"), 5);
        due("10 night hush mile rounds", stride("night+hush*10+mile+rounds"), 37);
        due("10 or behind and", stride("if(all or all and not all,1,2)"), 1);
        due("10 [ ]", stride("if([all or all] and not all,1,2)"), 2);
        due("10 not of a FACT alone", stride("if(not all or all,1,2)"), 1);
        due("10 not not", stride("if(not not 3>2,1,2)"), 1);
        due("10 =", stride("if(3=3,1,2)"), 1);
        due("10 7 open", stride("((((((( 6 )))))))"), 6);
        DistantVoice x = Check.made("round 9;place p at 1 talk 5;goes 3;");
        x.nights(1);
        due("10 it talks", x.has(6), 5);
        due("10 and would go", x.stride(), 3);
    }

    private static void promise11() {
        DistantVoice x = Check.made(HOME);
        int[][] want = {{14, 0, 0}, {17, 0, 3}, {17, 0, 2}, {17, 0, 1}, {17, 0, 0}, {1, 1, 0}, {5, 1, 1}, {5, 1, 0}, {10, 1, 0}};
        for (int n = 0; n < want.length; n++) {
            row("11 later " + n, new int[] {x.later(n, 0), x.later(n, 1), x.later(n, 2)}, want[n]);
        }
        due("11 nothing goes by", x.has(3), 0);
        due("11 60", x.later(60, 1) >= 0, true);
        due("11 61", x.later(61, 0), -1);
        due("11 below 0", x.later(-1, 0), -1);
        due("11 others", x.later(1, 3), -1);
        due("11 others", x.later(1, -1), -1);
        due("11 without a house", new DistantVoice().later(0, 0), -1);
        due("11", Check.on(x, Check.image(990, 3, 5, 0, 3, 1, 2, 3, 4)), true);
        due("11 to NIGHT 999", x.later(9, 0) >= 0, true);
        due("11 beyond NIGHT 999", x.later(10, 0), -1);
        DistantVoice y = Check.made("round 5;place p at 2 talk 1;goes 99;");
        row("11 no further than the PLACE", new int[] {y.later(1, 0), y.later(3, 0), y.later(3, 1)}, 2, 2, 1);
        DistantVoice z = Check.made("round 5;goes 99;");
        row("11 round and round", new int[] {z.later(1, 0), z.later(1, 1)}, 4, 19);
        due("11", Check.on(z, Check.image(0, 0, 990, 0, 0)), true);
        row("11 999 times at most", new int[] {z.later(1, 1), z.later(2, 1)}, 999, 999);
        DistantVoice o = Check.made("round 5;place p at 2 talk 1;goes 0;");
        due("11", Check.on(o, Check.image(0, 2, 0, 0, 0, 1)), true);
        row("11 it does not come to where it is", new int[] {o.later(1, 0), o.later(1, 2)}, 2, 0);
    }

    private static void promise12() {
        DistantVoice x = Check.made("round 10;voice 9;goes 1;");
        row("12", new int[] {x.round(0), x.round(1), x.round(2), x.round(6), x.round(7)}, 0, 1, 11, 51, -1);
        due("12 none", x.round(999), -1);
        due("12 others", x.round(1000), -1);
        due("12 others", x.round(-1), -1);
        due("12 without a house", new DistantVoice().round(0), -1);
        due("12", Check.on(x, Check.image(999, 9, 7, 0, 0)), true);
        row("12 NIGHT 999", new int[] {x.round(7), x.round(8)}, 0, -1);
        due("12", Check.on(x, Check.image(998, 9, 998, 0, 0)), true);
        row("12 999 times", new int[] {x.round(998), x.round(999)}, 0, 1);
        DistantVoice y = Check.made("round 60;");
        row("12 60 NIGHTS", new int[] {y.round(1), y.round(2)}, 60, -1);
    }

    private static void promise13() {
        DistantVoice x = Check.made("round 9;ear a row 0 sharp 0;ear b row 0 sharp 1;ear c row 0 sharp 2;"
                + "hears night%3=sharp or far=4;");
        int[] want = {1, 2, 4, 7, 7, 4, 1, 2, 4};
        for (int n = 0; n < want.length; n++) {
            due("13 heard " + n, x.heard(n), want[n]);
        }
        due("13 59", x.heard(59) >= 0, true);
        due("13 60", x.heard(60), -1);
        due("13 below 0", x.heard(-1), -1);
        due("13 highest", x.heard(HIGH), -1);
        due("13 without a house", new DistantVoice().heard(0), -1);
        due("13", Check.on(x, Check.image(997, 0, 0, 0, 0, 0, 0, 0)), true);
        row("13 to NIGHT 999", new int[] {x.heard(0), x.heard(1), x.heard(2)}, 2, 4, -1);
        due("13 without EARS", Check.made("round 9;").heard(0), 0);
    }

    private static void promise14() {
        DistantVoice x = Check.made("round 9;ear a row 0 sharp 3;ear b row 0 sharp 0;hears night%4=sharp;");
        row("14", new int[] {x.often(0, 0), x.often(0, 3), x.often(0, 4), x.often(0, 60), x.often(1, 1)}, 0, 0, 1, 15, 1);
        row("14 fewer again", new int[] {x.often(0, 3), x.often(1, 4), x.often(1, 0)}, 0, 1, 0);
        due("14 61", x.often(0, 61), -1);
        due("14 below 0", x.often(0, -1), -1);
        due("14 none such", x.often(2, 1), -1);
        due("14 none such", x.often(-1, 1), -1);
        due("14", Check.on(x, Check.image(999, 0, 0, 0, 0, 0, 0)), true);
        row("14 NIGHT 999", new int[] {x.often(0, 0), x.often(0, 1)}, 0, -1);
    }

    private static void promise15() {
        DistantVoice x = Check.made("round 50;hush 9;ear a row 0 sharp 7;ear b row 5 sharp 5;goes hush+1;"
                + "hears hush>sharp-1 and night=row or night=3 and far>15 and far<21 and sharp=5;");
        due("15 in the first NIGHT", x.quiet(0, 1), 7);
        due("15 in none of 3", x.quiet(1, 3), -1);
        due("15 going by that hush too", x.quiet(1, 4), 3);
        due("15 40", x.quiet(1, 40), 3);
        due("15 41", x.quiet(0, 41), -1);
        due("15 0", x.quiet(0, 0), -1);
        due("15 none such", x.quiet(2, 1), -1);
        due("15 none such", x.quiet(-1, 1), -1);
        due("15 the hush stays", x.has(7), 9);
        due("15 9 alone", Check.made("round 9;ear a row 0 sharp 0;hears hush>8;").quiet(0, 1), 9);
        due("15", Check.on(x, Check.image(998, 0, 0, 0, 0, 0, 0)), true);
        due("15 beyond NIGHT 999", x.quiet(0, 2), -1);
        due("15 none", x.quiet(0, 1), -1);
        due("15 without a house", new DistantVoice().quiet(0, 1), -1);
    }

    private static void promise16() {
        DistantVoice x = Check.made("round 50;ear a row 0 sharp 0;ear b row 0 sharp 0;ear c row 0 sharp 9;"
                + "hears row=4 and night<9 or row=7 and night<5+sharp or row=2 and sharp=0 and night<3;");
        // in 10 NIGHTS: row 4 9 for each; row 7 5, 5, 10; row 2 3, 3, 0
        row("16", new int[] {x.seats(10, -1), x.seats(10, 0), x.seats(10, 1), x.seats(10, 2)}, 22, 2, 4, 7);
        row("16 of like ones the first", new int[] {x.seats(1, -1), x.seats(1, 0), x.seats(1, 1), x.seats(1, 2)}, 3, 2, 4, 7);
        DistantVoice y = Check.made("round 50;ear a row 3 sharp 1;ear b row 3 sharp 1;ear c row 3 sharp 1;hears all;");
        row("16 all alike", new int[] {y.seats(40, -1), y.seats(40, 0), y.seats(40, 1), y.seats(40, 2)}, 120, 0, 1, 2);
        due("16 the rows stay", y.ear(1, 0), 3);
        due("16 41", y.seats(41, -1), -1);
        due("16 0", y.seats(0, -1), -1);
        due("16 none such", y.seats(1, 3), -1);
        due("16 none such", y.seats(1, -2), -1);
        due("16 without a house", new DistantVoice().seats(1, -1), -1);
        DistantVoice z = Check.made("round 50;");
        row("16 without EARS", new int[] {z.seats(5, -1), z.seats(5, 0)}, 0, -1);
        due("16", Check.on(z, Check.image(998, 0, 0, 0, 0)), true);
        row("16 NIGHT 999", new int[] {z.seats(1, -1), z.seats(2, -1)}, 0, -1);
        DistantVoice v = Check.made("round 50;ear a row 0 sharp 1;ear b row 0 sharp 1;hears row>8;");
        row("16 rows 0 .. 9", new int[] {v.seats(3, -1), v.seats(3, 0), v.seats(3, 1)}, 3, 0, 9);
        DistantVoice w = Check.made("round 9;ear a row 0 sharp 0;ear b row 0 sharp 1;ear c row 0 sharp 2;ear d row 0 sharp 3;"
                + "ear e row 0 sharp 4;ear f row 0 sharp 5;ear g row 0 sharp 6;hears row=9-sharp;");
        row("16 7 EARS", new int[] {w.seats(2, -1), w.seats(2, 0), w.seats(2, 3), w.seats(2, 6)}, 14, 9, 6, 3);
    }

    private static void promise17() {
        DistantVoice x = Check.made("round 50;ear a row 0 sharp 1;ear b row 0 sharp 2;ear c row 0 sharp 3;ear d row 1 sharp 3;"
                + "hears night<4 and [night=sharp or night+1=sharp or row=1 and night=0];");
        // NIGHT 0: a d, 1: a b, 2: b c d, 3: c d
        row("17", new int[] {x.watch(1), x.watch(2), x.watch(3), x.watch(4), x.watch(40)}, 1, 1, 3, 5, 5);
        row("17 fewer again", new int[] {x.watch(3), x.watch(1)}, 3, 1);
        DistantVoice y = Check.made("round 50;ear a row 0 sharp 0;ear b row 0 sharp 1;ear c row 9 sharp 9;"
                + "hears night=sharp or row=9;");
        due("17 the fewest", y.watch(2), 4);
        due("17 41", x.watch(41), -1);
        due("17 0", x.watch(0), -1);
        due("17 without a house", new DistantVoice().watch(1), -1);
        due("17 nothing heard", Check.made("round 50;ear a row 0 sharp 1;hears not all;").watch(40), 0);
        due("17 without EARS", Check.made("round 50;").watch(40), 0);
        due("17", Check.on(x, Check.image(998, 0, 0, 0, 0, 0, 0, 0, 0)), true);
        row("17 NIGHT 999", new int[] {x.watch(1), x.watch(2)}, 0, -1);
    }

    private static void promise18() {
        DistantVoice x = Check.made(HOME);
        row("18", new int[] {x.silence(5), x.silence(4), x.silence(3), x.silence(2)}, 0, 1, 1, -1);
        due("18 41", x.silence(41), -1);
        due("18 0", x.silence(0), -1);
        due("18 without a house", new DistantVoice().silence(1), -1);
        due("18 the talks stay", x.place(0, 1), 2);
        DistantVoice y = Check.made("round 12;place a at 3 talk 2;place b at 6 talk 3;place c at 9 talk 1;goes 3;");
        // 4 NIGHTS on the way, and 6 of talk
        row("18", new int[] {y.silence(10), y.silence(9), y.silence(8), y.silence(7), y.silence(6), y.silence(5), y.silence(4),
            y.silence(3)}, 0, 1, 1, 2, 3, 3, 7, -1);
        due("18", Check.on(y, Check.image(5, 0, 999, 0, 0, 2, 3, 1)), true);
        due("18 round 999 times", y.silence(40), -1);
        due("18", Check.on(y, Check.image(5, 0, 0, 0, 0, 1, 1, 4)), true);
        row("18 the fewest", new int[] {y.silence(9), y.silence(8), y.silence(5)}, 1, 4, 5);
        due("18", Check.on(y, Check.image(5, 0, 998, 0, 0, 2, 3, 1)), true);
        due("18 round 998 times", y.silence(40), 0);
        due("18", Check.on(y, Check.image(990, 0, 0, 0, 0, 2, 3, 1)), true);
        row("18 to NIGHT 999", new int[] {y.silence(9), y.silence(10)}, 1, -1);
        due("18", Check.on(y, Check.image(5, 9, 0, 7, 0, 2, 3, 1)), true);
        row("18 it talks on", new int[] {y.silence(7), y.silence(8)}, -1, 0);
    }

    private static void promise19() {
        DistantVoice x = Check.made("round 50;voice 5;hush 6;cough 30;ear a row 0 sharp 4;ear b row 0 sharp 7;hears hush>sharp;");
        row("19", new int[] {x.odds(0), x.odds(1)}, 30 * 5 + 700, 30 * 2);
        due("19 none such", x.odds(2), -1);
        due("19 none such", x.odds(-1), -1);
        due("19 the seed stays", x.has(12), 1);
        due("19 no cough", Check.made("round 9;hush 1;ear a row 0 sharp 0;hears hush=1;").odds(0), 1000);
        due("19 always", Check.made("round 9;hush 1;cough 100;ear a row 0 sharp 0;hears hush=1;").odds(0), 100);
        due("19 going by the cough", Check.made("round 50;cough 10;ear a row 0 sharp 0;goes hush*10;hears far=20;").odds(0), 40);
        due("19", Check.on(x, Check.image(999, 0, 0, 0, 0, 0, 0)), true);
        due("19 beyond NIGHT 999", x.odds(0), -1);
        due("19", Check.on(x, Check.image(998, 0, 0, 0, 0, 0, 0)), true);
        due("19 in NIGHT 998", x.odds(0), 150);
    }

    private static void promise20() {
        DistantVoice x = Check.made(HOME);
        due("20 none", Check.mark(x), -1);
        due("20 two bytes", Check.mark(x, 0, 0), -1);
        due("20 four bytes", Check.mark(x, 0, 0, 0, 0), -1);
        due("20 a row", Check.mark(x, 30, 1, 1), 1);
        int[] rows = new int[48];
        due("20 16 rows", Check.mark(x, rows), 16);
        due("20 17 rows", Check.mark(x, new int[51]), -1);
        due("20 NIGHT 31", Check.mark(x, 0, 0, 0, 31, 0, 0), -1);
        due("20 EAR 2", Check.mark(x, 0, 2, 0), -1);
        due("20 neither 0 nor 1", Check.mark(x, 0, 0, 2), -1);
        due("20 bytes above 127", Check.mark(x, 128, 0, 0), -1);
        due("20 refused", x.status(5), 8);
        due("20 the latest stays", x.has(10), 16);
        due("20 the tape goes", x.end(1), false);
        x.nights(1);
        x.undo();
        due("20 it stays", x.has(10), 16);
        due("20 without a house", Check.mark(new DistantVoice(), 0, 0, 0), -1);
    }

    private static void promise21() {
        DistantVoice x = Check.made("round 12;voice 3;ear a row 0 sharp 2;ear b row 0 sharp 4;goes 2;hears far<sharp;");
        row("21 all", new int[] {x.miles(-1), x.miles(0), x.miles(11), x.miles(12), x.miles(-2)}, 12, 0, 11, -1, -1);
        Check.mark(x, 0, 0, 1);
        row("21 at 11, 0, 1 then", new int[] {x.miles(-1), x.miles(0), x.miles(1), x.miles(2), x.miles(3)}, 3, 9, 10, 11, -1);
        Check.mark(x, 0, 0, 1, 2, 1, 0);
        row("21 and far 4 and more two NIGHTS later", new int[] {x.miles(-1), x.miles(0), x.miles(1)}, 2, 10, 11);
        due("21 refused", Check.mark(x, 0, 0, 9), -1);
        due("21 the latest that was not refused", x.miles(-1), 2);
        int[] rows = new int[48];
        for (int i = 0; i < 16; i++) {
            rows[3 * i] = i;
        }
        due("21 16 rows", Check.mark(x, rows), 16);
        due("21 16 rows", x.miles(-1), 0);
        Check.mark(x, 0, 0, 1, 0, 0, 0);
        due("21 none", x.miles(-1), 0);
        due("21 none", x.miles(0), -1);
        due("21 without a house", new DistantVoice().miles(-1), -1);
        DistantVoice y = Check.made("round 12;place p at 6 talk 9;ear a row 0 sharp 0;goes 3;hears far=0;");
        Check.mark(y, 1, 0, 1);
        row("21 by places", new int[] {y.miles(-1), y.miles(0)}, 1, 6);
        y.nights(2);
        due("21 talking with nobody", y.has(6), 9);
        due("21", y.miles(0), 6);
        due("21", Check.on(y, Check.image(998, 6, 0, 9, 0, 0, 9)), true);
        due("21 a NIGHT beyond 999", y.miles(-1), 0);
        Check.mark(y, 1, 0, 0);
        due("21 a NIGHT beyond 999", y.miles(-1), 0);
        Check.mark(y, 0, 0, 1);
        row("21 NIGHT 998", new int[] {y.miles(-1), y.miles(0)}, 1, 9);
        Check.house(y, "round 12;");
        due("21 of this HOUSE", y.miles(-1), 12);
    }

    private static void promise22() {
        DistantVoice x = Check.made("round 16;ear a row 0 sharp 2;ear b row 0 sharp 5;goes 1;hears far<sharp;");
        row("22", new int[] {x.tells(0), x.tells(1), x.tells(2), x.tells(3), x.tells(-1)}, 0, 1, 9, -1, -1);
        Check.mark(x, 0, 1, 1);
        // left are 11 .. 15, 0 .. 3: at 12 .. 4 then; a hears at 15, 0, 1, or two NIGHTS later at 13, 14, 15
        row("22", new int[] {x.tells(0), x.tells(1), x.tells(2)}, 4, 1, 5);
        Check.mark(x, 0, 0, 1, 0, 1, 0);
        due("22 without any left", x.tells(0), -1);
        due("22 without EARS", Check.made("round 16;").tells(0), -1);
        due("22 without a house", new DistantVoice().tells(2), -1);
        DistantVoice y = Check.made("round 16;ear a row 0 sharp 2;ear b row 0 sharp 5;goes 1;hears night=998 and far<sharp;");
        due("22", Check.on(y, Check.image(997, 3, 0, 2, 0, 1, 1)), true);
        row("22 to NIGHT 999", new int[] {y.tells(0), y.tells(1), y.tells(2)}, 1, 1, 9);
        due("22", Check.on(y, Check.image(998, 3, 0, 2, 0, 1, 1)), true);
        row("22 NIGHT 998", new int[] {y.tells(0), y.tells(1), y.tells(2)}, 0, 1, 9);
        due("22", Check.on(y, Check.image(999, 3, 0, 2, 0, 1, 1)), true);
        due("22 when no NIGHT comes", y.tells(0), -1);
        DistantVoice z = Check.made("round 16;ear a row 0 sharp 2;ear b row 0 sharp 2;goes 1;hears night=30 and far<5;");
        row("22 to NIGHT 30", new int[] {z.tells(0), z.tells(1), z.tells(2)}, 30, 0, 9);
        DistantVoice v = Check.made("round 16;ear a row 0 sharp 2;ear b row 1 sharp 2;goes 1;hears night=3 and far=0 and row=1;");
        row("22 one fewer", new int[] {v.tells(0), v.tells(1), v.tells(2)}, 3, 1, 15);
        DistantVoice w = Check.made("round 16;ear a row 0 sharp 2;goes 1;hears night=31 and far<5;");
        row("22 and no further", new int[] {w.tells(0), w.tells(1), w.tells(2)}, 0, 0, 16);
    }

    private static void promise23() {
        DistantVoice x = Check.made(HOME);
        due("23", x.nights(8), 7);
        row("23", state(x), 8, 10, 1, 0, 3, 10, 7, 0, 1);
        due("23 0", x.nights(0), -1);
        due("23 61", x.nights(61), -1);
        due("23 below 0", x.nights(LOW), -1);
        due("23 60", x.nights(60) >= 0, true);
        due("23 refused", x.status(2), 3);
        due("23", Check.on(x, Check.image(998, 3, 0, 2, 0, 1, 1, 1, 1)), true);
        due("23 beyond NIGHT 999", x.nights(2), -1);
        due("23 to NIGHT 999", x.nights(1) >= 0, true);
        due("23 NIGHT 999", x.has(3), 999);
        due("23 no more", x.nights(1), -1);
        due("23 refused", x.status(2), 5);
        due("23 the seed stays", x.has(12), 1);
        due("23 without a house", new DistantVoice().nights(1), -1);
    }

    private static long next(long x) {
        return (1103515245L * x + 12345) % (1L << 31);
    }

    private static void promise24() {
        DistantVoice x = Check.made("round 100;cough 50;hush 4;ear a row 0 sharp 0;goes hush;hears hush=hush;");
        long seed = 1;
        int mile = 0;
        int coughs = 0;
        for (int i = 0; i < 20; i++) {
            seed = next(seed);
            int hush = 4;
            if (seed / 64 % 100 < 50) {
                seed = next(seed);
                hush = (int) (seed / 64 % 10);
                coughs++;
            }
            mile = (mile + hush) % 100;
        }
        due("24 coughs", x.chance(20), coughs);
        due("24 the seed", x.has(12), seed);
        due("24 where it is", x.has(4), mile);
        due("24 that NIGHT alone", x.has(7), 4);
        due("24 KEPT", x.has(9), 20);
        due("24 one ACT", x.has(11), 1);
        due("24 0", x.chance(0), -1);
        due("24 61", x.chance(61), -1);
        due("24 the seed stays", x.has(12), seed);
        due("24 60", x.chance(60) >= 0, true);
        due("24", Check.on(x, Check.image(940, 3, 0, 2, 0, 1)), true);
        due("24 beyond NIGHT 999", x.chance(60), -1);
        due("24 to NIGHT 999", x.chance(59) >= 0, true);
        due("24 refused", x.status(2), 3);
        due("24 without a house", new DistantVoice().chance(1), -1);
        DistantVoice y = Check.made("round 9;cough 0;");
        y.seed(HIGH);
        due("24 no coughs", y.chance(1), 0);
        due("24 a DRAW all the same", y.has(12), next(HIGH));
        int begin = 0;
        while (next(begin) / 64 % 100 != 37) {
            begin++;
        }
        DistantVoice z = Check.made("round 9;cough 37;");
        z.seed(begin);
        due("24 not below cough", z.chance(1), 0);
        DistantVoice w = Check.made("round 9;cough 38;");
        w.seed(begin);
        due("24 below cough", w.chance(1), 1);
        due("24 two DRAWS", w.has(12), next(next(begin)));
        due("24 always", Check.made("round 9;cough 100;").chance(7), 7);
    }

    private static void promise25() {
        DistantVoice x = Check.made("round 9;hush 4;");
        due("25", x.hush(9), true);
        due("25", x.has(7), 9);
        due("25 0", x.hush(0), true);
        due("25 that already", x.hush(0), false);
        due("25 10", x.hush(10), false);
        due("25 below 0", x.hush(-1), false);
        due("25 refused", x.status(3), 3);
        due("25 ACTS", x.has(11), 2);
        due("25 without a house", new DistantVoice().hush(1), false);
    }

    private static void promise26() {
        DistantVoice x = Check.made(HOME);
        due("26", x.sit(1, 9), true);
        row("26", new int[] {x.ear(0, 0), x.ear(1, 0)}, 9, 9);
        due("26 0", x.sit(1, 0), true);
        due("26 that already", x.sit(1, 0), false);
        due("26 10", x.sit(1, 10), false);
        due("26 below 0", x.sit(1, -1), false);
        due("26 none such", x.sit(2, 1), false);
        due("26 none such", x.sit(-1, 1), false);
        due("26 refused", x.status(3), 5);
        due("26 ACTS", x.has(11), 2);
        due("26 without a house", new DistantVoice().sit(0, 1), false);
    }

    private static void promise27() {
        DistantVoice x = Check.made(HOME);
        due("27", x.please(1, 9), true);
        row("27", new int[] {x.place(0, 1), x.place(1, 1)}, 2, 9);
        due("27 0", x.please(1, 0), true);
        due("27 that already", x.please(1, 0), false);
        due("27 10", x.please(1, 10), false);
        due("27 below 0", x.please(1, -1), false);
        due("27 none such", x.please(2, 1), false);
        due("27 none such", x.please(-1, 1), false);
        due("27 refused", x.status(3), 5);
        due("27 ACTS", x.has(11), 2);
        due("27 without a house", new DistantVoice().please(0, 1), false);
    }

    private static void promise28() {
        DistantVoice x = Check.made(HOME);
        due("28 none", x.undo(), false);
        due("28 refused", x.status(4), 1);
        x.nights(2);
        x.chance(7);
        int seed = x.has(12);
        x.hush(9);
        x.sit(0, 0);
        x.please(1, 9);
        row("28 ahead of it", new int[] {x.has(7), x.ear(0, 0), x.place(1, 1), x.has(11)}, 9, 0, 9, 5);
        due("28", x.undo(), true);
        row("28 please", new int[] {x.has(7), x.ear(0, 0), x.place(1, 1), x.has(11)}, 9, 0, 0, 4);
        due("28", x.undo(), true);
        row("28 sit", new int[] {x.has(7), x.ear(0, 0), x.place(1, 1), x.has(11)}, 9, 9, 0, 3);
        due("28", x.undo(), true);
        row("28 hush", new int[] {x.has(7), x.ear(0, 0), x.has(3), x.has(11)}, 3, 9, 9, 2);
        due("28", x.undo(), true);
        row("28 chance", state(x), 2, 17, 0, 2, 3, 3, 2, 0, 1);
        due("28 but the seed", x.has(12), seed);
        due("28", x.undo(), true);
        row("28 nights", state(x), 0, 14, 0, 0, 3, 6, 0, 0, 0);
        due("28 no more", x.undo(), false);
        for (int i = 0; i < 25; i++) {
            x.hush(i % 2 == 0 ? 5 : 6);
        }
        due("28 the last 20", x.has(11), 20);
        for (int i = 0; i < 20; i++) {
            due("28 undo " + i, x.undo(), true);
        }
        due("28 not the 21st", x.undo(), false);
        due("28 5 stay done", x.has(7), 5);
        DistantVoice y = Check.made("round 9;ear a row 0 sharp 0;hears all;");
        y.nights(41);
        y.nights(60);
        due("28 the last 40", y.kept(0, 0), 61);
        y.undo();
        due("28 what was KEPT is back", y.has(9), 40);
        due("28 what was KEPT is back", y.kept(0, 0), 1);
    }

    private static void promise29() {
        DistantVoice x = new DistantVoice();
        due("29 0", x.seed(0), true);
        due("29 0", x.has(12), 0);
        due("29 highest", x.seed(HIGH), true);
        due("29 highest", x.has(12), HIGH);
        due("29 below 0", x.seed(-1), false);
        due("29 lowest", x.seed(LOW), false);
        due("29 it stays", x.has(12), HIGH);
        due("29 refused", x.status(5), 2);
    }

    private static void promise30() {
        DistantVoice x = Check.made(HOME);
        x.nights(9);
        due("30", x.has(9), 8);
        row("30 the oldest", new int[] {x.kept(0, 0), x.kept(0, 1), x.kept(0, 2)}, 0, 17, 3);
        row("30 the latest", new int[] {x.kept(7, 0), x.kept(7, 1), x.kept(7, 2)}, 8, 15, 3);
        due("30 not HEARD in NIGHT 7", x.kept(6, 0), 6);
        due("30 none such", x.kept(8, 0), -1);
        due("30 none such", x.kept(-1, 0), -1);
        due("30 others", x.kept(0, 3), -1);
        due("30 others", x.kept(0, -1), -1);
        DistantVoice y = Check.made("round 200;voice 198;ear a row 0 sharp 0;hears night%2=0;");
        y.nights(60);
        y.nights(21);
        row("30 the last 40", new int[] {y.has(9), y.kept(0, 0), y.kept(39, 0), y.kept(39, 1), y.kept(40, 0)}, 40, 2, 80, 79, -1);
        due("30 without a house", new DistantVoice().kept(0, 0), -1);
        DistantVoice z = Check.made("round 200;voice 199;ear a row 0 sharp 0;ear b row 0 sharp 0;hears all;goes 0;");
        for (int i = 0; i < 16; i++) {
            z.nights(60);
        }
        z.nights(39);
        row("30 to NIGHT 999", new int[] {z.has(3), z.kept(39, 0), z.kept(39, 1), z.kept(39, 2)}, 999, 998, 199, 3);
    }

    private static int[] written(DistantVoice x) {
        int[] bytes = new int[x.image()];
        for (int i = 0; i < bytes.length; i++) {
            bytes[i] = x.octet(i);
        }
        return bytes;
    }

    private static void promise31() {
        due("31 without a house", new DistantVoice().image(), 9);
        DistantVoice x = Check.made(HOME);
        row("31", written(x), Check.image(0, 14, 0, 0, 3, 9, 1, 2, 0));
        x.nights(1);
        x.sit(1, 7);
        row("31 later", written(x), Check.image(1, 17, 0, 3, 3, 9, 7, 2, 0));
        due("31", Check.on(x, Check.image(999, 19, 999, 20, 9, 9, 0, 9, 0)), true);
        row("31 the most", written(x), 3, 231, 0, 19, 3, 231, 20, 9, 9, 0, 9, 0, Check.image(999, 19, 999, 20, 9, 9, 0, 9, 0)[12]);
    }

    private static void promise31Full() {
        StringBuilder b = new StringBuilder("round 200;voice 199;");
        for (int i = 0; i < 7; i++) {
            b.append("ear ").append((char) ('a' + i)).append(" row ").append(9 - i).append(" sharp 1;");
        }
        for (int i = 0; i < 6; i++) {
            b.append("place ").append((char) ('p' + i)).append(" at ").append(20 * i + 1).append(" talk ").append(i).append(";");
        }
        row("31 the longest", written(Check.made(b.toString())),
                Check.image(0, 199, 0, 0, 0, 9, 8, 7, 6, 5, 4, 3, 0, 1, 2, 3, 4, 5));
    }

    private static void promise32() {
        DistantVoice x = new DistantVoice();
        due("32 ahead of any", x.octet(0), -1);
        x.image();
        int c = 239;
        for (int i = 0; i < 8; i++) {
            c = 5 * c % 251;
        }
        due("32 the last byte", x.octet(8), c);
        due("32 none such", x.octet(9), -1);
        due("32 none such", x.octet(-1), -1);
        Check.house(x, HOME);
        due("32 the latest image()", x.octet(9), -1);
        due("32", x.image(), 13);
        x.hush(9);
        due("32 the latest image()", x.octet(7), 3);
        due("32 the last one", x.octet(12) >= 0, true);
        due("32 none such", x.octet(13), -1);
    }

    private static void promise33() {
        DistantVoice x = Check.made(HOME);
        x.nights(4);
        Check.mark(x, 0, 0, 1);
        due("33", Check.on(x, Check.image(300, 19, 256, 20, 9, 8, 7, 6, 5)), true);
        row("33 all is as it tells", state(x), 300, 19, 256, 20, 9, 1, 0, 1, 0);
        row("33", new int[] {x.ear(0, 0), x.ear(1, 0), x.place(0, 1), x.place(1, 1)}, 8, 7, 6, 5);
        due("33 the tape goes", x.end(1), false);
        int[][] wrong = {Check.image(1000, 0, 0, 0, 0, 0, 0, 0, 0), Check.image(0, 20, 0, 0, 0, 0, 0, 0, 0),
            Check.image(0, 0, 1000, 0, 0, 0, 0, 0, 0), Check.image(0, 0, 0, 21, 0, 0, 0, 0, 0),
            Check.image(0, 0, 0, 0, 10, 0, 0, 0, 0), Check.image(0, 0, 0, 0, 0, 0, 10, 0, 0),
            Check.image(0, 0, 0, 0, 0, 0, 0, 0, 10), Check.image(0, 0, 0, 0, 0, 0, 0, 0), Check.image(0, 0, 0, 0, 0, 0, 0, 0, 0, 0),
            {}, {0}, Check.image(0x8000, 0, 0, 0, 0, 0, 0, 0, 0), Check.image(0, 0, 0, 0, 200, 0, 0, 0, 0)};
        for (int i = 0; i < wrong.length; i++) {
            due("33 none such " + i, Check.on(x, wrong[i]), false);
            due("33 the tape goes", x.end(1), false);
        }
        int[] image = Check.image(1, 2, 3, 4, 5, 6, 7, 8, 9);
        image[12] = (image[12] + 1) % 251;
        due("33 the last byte", Check.on(x, image), false);
        due("33 refused", x.status(5), 14);
        row("33 all staying", state(x), 300, 19, 256, 20, 9, 1, 0, 1, 0);
        due("33 its own", Check.on(x, written(x)), true);
        due("33 without a house", Check.on(new DistantVoice(), Check.image(0, 0, 0, 0, 0)), false);
        due("33 the first and the last", Check.on(x, Check.image(999, 19, 999, 20, 9, 9, 9, 9, 9)), true);
        due("33 talking, it stays", x.later(0, 2), 20);
    }

    private static void promise34() {
        DistantVoice x = new DistantVoice();
        for (int i = 0; i < 6; i++) {
            due("34 none " + i, x.status(i), 0);
        }
        x.end(1);
        x.house();
        x.nights(1);
        x.chance(1);
        x.hush(1);
        x.sit(0, 1);
        x.please(0, 1);
        x.undo();
        x.seed(-1);
        x.mark();
        x.on();
        x.miles(-1);
        x.later(0, 0);
        row("34", new int[] {x.status(0), x.status(1), x.status(2), x.status(3), x.status(4), x.status(5)}, 1, 1, 2, 3, 1, 3);
        Check.house(x, HOME);
        row("34 they stay", new int[] {x.status(0), x.status(1), x.status(2), x.status(3), x.status(4), x.status(5)},
                1, 1, 2, 3, 1, 3);
        due("34 others", x.status(6), -1);
        due("34 others", x.status(-1), -1);
    }

    public static void main(String[] args) {
        promise1();
        promise2();
        promise3();
        promise4();
        promise5();
        promise6();
        promise7();
        promise8();
        promise9();
        promise10();
        promise11();
        promise12();
        promise13();
        promise14();
        promise15();
        promise16();
        promise17();
        promise18();
        promise19();
        promise20();
        promise21();
        promise22();
        promise23();
        promise24();
        promise25();
        promise26();
        promise27();
        promise28();
        promise29();
        promise30();
        promise31();
        promise31Full();
        promise32();
        promise33();
        promise34();
        Check.finish();
    }
}
