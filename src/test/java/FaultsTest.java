/** The FAULTS of a text: which one, and where. A mark in each text, ^, stands ahead of the byte that is at fault. */
public final class FaultsTest {
    private static DistantVoice latest = new DistantVoice();
    private static int used = 0;

    private FaultsTest() {
    }

    /** An object is used for so many calls at most; then the next one is taken. */
    private static DistantVoice voice() {
        used++;
        if (used % 4 == 0) {
            latest = new DistantVoice();
        }
        return latest;
    }

    private static void fault(int kind, String marked) {
        DistantVoice x = voice();
        int at = marked.indexOf('^');
        String text = at < 0 ? marked : marked.substring(0, at) + marked.substring(at + 1);
        int answer = Check.house(x, text);
        Check.due("fault(0) of " + text, x.fault(0), kind);
        Check.due("fault(1) of " + text, x.fault(1), kind == 0 ? -1 : at);
        Check.due("house() of " + text, answer == -1, kind != 0);
    }

    private static void goes(int kind, String marked) {
        fault(kind, "round 9;goes " + marked);
    }

    private static void hears(int kind, String marked) {
        fault(kind, "round 9;hears " + marked);
    }

    private static void statements() {
        fault(1, "^");
        fault(1, "  \n ^");
        fault(1, "^;");
        fault(1, "^7");
        fault(1, "^voice 3;");
        fault(1, "^rounds 5;");
        fault(1, "^roun");
        fault(1, "round 5^");
        fault(1, "round 5  ^");
        fault(1, "round ^x;");
        fault(1, "round ^;");
        fault(1, "round 5;^;");
        fault(1, "round 5;^round 5;");
        fault(1, "round 5;^far");
        fault(1, "round 5;^name");
        fault(1, "round 5 ^6;");
        fault(1, "^Round 5;");
        fault(1, "^rOund 5;");
        fault(1, "round 5;^\t");
        fault(1, "round 5;^\r");
        fault(1, "round 5;^\u00e9");
        fault(1, "round 5;^\0");
        fault(0, "round 5;");
        fault(0, "\n round\n\n5\n;\n");
        fault(0, "round 0200;voice 0199;");
    }

    private static void wordsAndNumbers() {
        fault(1, "round^5;");
        fault(1, "round 5;ear a row 1^sharp 1;");
        fault(1, "round 5;ear a row^1 sharp 1;");
        fault(1, "round 5;ear a^1");
        fault(1, "round 9;place p at 1^talk 2;");
        hears(1, "1<2^or 2<1;");
        hears(1, "1<2 or^2<1;");
        hears(0, "1<2 or 2<1;");
        hears(0, "(1)<(2)or(2)<(1)and[all]or all;");
        fault(1, "rounda^b");
        fault(1, "abcdef^g");
        fault(1, "round abcdef^ghijk");
        fault(1, "round 5 abcdef^gh");
        fault(1, "round 0000^5;");
        fault(1, "round 9999^9;");
        fault(1, "1234^5");
        fault(1, "round 5;ear sevena^b");
        fault(1, "round 5;^coughs 1;");
        goes(1, "1 1234^5;");
        goes(1, "1 abcdef^g;");
        goes(1, "1+abcdef^g;");
        goes(0, "9999;");
        goes(0, "0000;");
    }

    /** The blank that is missing comes ahead of the 7th letter, the 5th digit; with a blank these are told. */
    private static void joinedAndTooLong() {
        fault(1, "round 5;ear a row 1^rounroun");
        fault(1, "round 5;ear a row 1 rounro^un");
        fault(1, "round 5;ear a row 1\nrounro^un");
        fault(1, "round^12345;");
        fault(1, "round 1234^5;");
        fault(1, "round 5;ear a^12345");
        fault(1, "round 5;ear a 1234^5");
        fault(1, "round 5;ear abcdef^12345");
        fault(1, "round 5;ear abcdef^g12345");
        fault(1, "round 1234^5abcdefg");
        fault(1, "round 5^abcdefg12345");
        fault(4, "round ^4abcdefg");
        goes(1, "1^abcdefg;");
        goes(1, "night^12345;");
        goes(1, "1+mile^12345;");
        goes(1, "(1)abcdef^g;");
        goes(1, "(1)1234^5;");
        hears(1, "1<2^abcdefgh all;");
        hears(1, "not^12345<1;");
        hears(1, "not 1234^5<1;");
    }

    private static void names() {
        fault(1, "round 9;ear^");
        fault(1, "round 9;ear ^1");
        for (String own : Model.OWN) {
            fault(1, "round 9;ear ^" + own + " row 1 sharp 1;");
            fault(1, "round 9;place ^" + own + " at 1 talk 1;");
        }
        fault(0, "round 9;ear earx row 1 sharp 1;place rounda at 1 talk 1;place t at 2 talk 2;ear ea row 1 sharp 1;");
        fault(2, "round 9;ear ab row 1 sharp 1;ear ^ab");
        fault(2, "round 9;place ab at 1 talk 1;ear ^ab row 1 sharp 1;");
        fault(2, "round 9;ear ab row 1 sharp 1;place ^ab at 99;");
        fault(0, "round 9;ear ab row 1 sharp 1;ear aba row 1 sharp 1;ear a row 1 sharp 1;place ba at 1 talk 1;");
        fault(1, "round 9;ear abcdef row 1 sharp 1;ear abcdef^a row 1 sharp 1;");
    }

    private static void numbers() {
        fault(4, "round ^4;");
        fault(4, "round ^201;");
        fault(4, "round ^0");
        fault(4, "round ^4x");
        fault(0, "round 200;");
        fault(4, "round 9;voice ^9;");
        fault(0, "round 9;voice 8;");
        fault(4, "round 9;hush ^10;");
        fault(4, "round 9;cough ^101;");
        fault(0, "round 9;hush 9;cough 100;");
        fault(4, "round 9;ear a row ^10 sharp 10;");
        fault(4, "round 9;ear a row 9 sharp ^10;");
        fault(4, "round 9;place a at ^0 talk 1;");
        fault(4, "round 9;place a at ^9 talk 1;");
        fault(0, "round 9;place a at 8 talk 9;");
        fault(4, "round 9;place a at 8 talk ^10;");
        fault(4, "round 9;place a at 8 talk 9;place b at ^8 talk 9;");
        fault(4, "round 9;place a at 8 talk 9;place b at ^0008");
        fault(1, "round 9;place a at 8 talk 9;place b at 7 ^;");
        fault(1, "round 9;ear a ^sharp");
        fault(1, "round 9;ear a row 1 ^;");
    }

    private static void sums() {
        goes(1, "^;");
        goes(1, "1+^;");
        goes(1, "^-1;");
        goes(1, "1 ^1;");
        goes(1, "1 ^<2;");
        goes(1, "(1^;");
        goes(1, "1^);");
        goes(1, "(1+2^]");
        goes(1, "min^;");
        goes(1, "min ^1");
        goes(1, "min(1^)");
        goes(1, "min(1,2^,3)");
        goes(1, "if(1^,2,3)");
        goes(1, "if(1<2,3^)");
        goes(1, "if(1<2,^all,3)");
        goes(1, "if(all,3,4^<");
        goes(1, "^all;");
        goes(1, "^not 1;");
        goes(1, "^[1];");
        goes(1, "(1^");
        goes(1, "^far;");
        goes(1, "^sharp;");
        goes(1, "^row;");
        goes(1, "^talk;");
        goes(1, "^name;");
        goes(1, "^goes 1;");
        goes(0, "mile+rounds*night-hush/ min(1,2)%max ( 3 , 4 )+if(not[all]or 1=2 and 3>4,(5),6);");
        fault(1, "round 9;talks ^mile;");
        fault(1, "round 9;talks ^rounds;");
        fault(1, "round 9;talks ^far;");
        fault(0, "round 9;talks talk+night+hush;");
        hears(1, "^mile<1;");
        hears(1, "^rounds<1;");
        hears(1, "^talk<1;");
        hears(0, "sharp+row+far<night+hush;");
        hears(1, "1^;");
        hears(1, "(1^<2);");
        hears(1, "1<2^<3;");
        hears(1, "all^<3;");
        hears(1, "[all^);");
        hears(1, "[all]^=[all];");
        hears(1, "all and^;");
        hears(1, "all ^all;");
        hears(1, "not^;");
        hears(1, "1<^not 2;");
        hears(1, "^or all;");
    }

    private static void open() {
        goes(5, "(((((((^(1))))))));");
        goes(0, "(((((((1)))))))+(((((((2)))))));");
        goes(5, "min(((((((^(1");
        goes(0, "min(((((((1)))))),2);");
        hears(5, "not not not not not not not ^not all;");
        hears(0, "not not not not not not not all and not not not not not not not all;");
        hears(5, "[[[[[[[^[all]]]]]]]];");
        hears(0, "[[[[[[[all]]]]]]];");
        hears(5, "not [ not [ not [ (^(1))<2]]];");
        hears(0, "not [ not [ not [ (1)+(1)<(2) and not all]]];");
        hears(5, "not [ not [ not [ not ^(3)<4]]];");
        hears(5, "not not not not not not not 1<^(2);");
        hears(0, "not not not not not not 1<(2) and (1)<2;");
        goes(5, "if(if(if(if(if(if(if(if^(");
        goes(5, "if(if(if(if(if(if(not ^[all");
        goes(1, "1^(((((((((");
        goes(1, "(((((((1^(");
    }

    private static void counts() {
        fault(6, "round 9;goes 1;^goes");
        fault(6, "round 9;hears all;^hears all;");
        fault(6, "round 9;talks 1;hush 1;^talks 1;");
        String ears = "";
        for (int i = 0; i < 7; i++) {
            ears += "ear " + (char) ('a' + i) + " row 1 sharp 1;";
        }
        fault(0, "round 9;" + ears);
        fault(6, "round 9;" + ears + "^ear");
        fault(6, "round 9;" + ears + "hush 1; ^ear a row 1 sharp 1;");
        String places = "";
        for (int i = 0; i < 6; i++) {
            places += "place " + (char) ('p' + i) + " at " + (i + 1) + " talk 1;";
        }
        fault(0, "round 9;" + places + ears);
        fault(6, "round 9;" + places + "^place");
        String sixty = "round 9;" + "cough 1;".repeat(59);
        fault(0, sixty);
        fault(6, sixty + "^cough 1;");
        fault(6, sixty + " \n^hush");
        fault(6, sixty + "^round 9;");
        fault(6, sixty + "^goes 1;");
        fault(6, sixty + "^nothing");
        fault(6, sixty + "^1abcdefgh");
        fault(6, sixty + "^;");
        fault(1, "round 9;" + "cough 1;".repeat(58) + "^round 9;");
    }

    public static void main(String[] args) {
        statements();
        wordsAndNumbers();
        joinedAndTooLong();
        names();
        numbers();
        sums();
        open();
        counts();
        Check.finish();
    }
}
