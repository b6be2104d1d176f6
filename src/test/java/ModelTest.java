import java.util.Random;

/** Many houses and runs of calls, made from fixed numbers, each answer compared with the Model's. */
public final class ModelTest {
    private static final String[] WORDS = ("round voice hush cough ear row sharp place at talk goes hears talks night mile"
            + " rounds far if or and not all min max a zz abcdef abcdefg 0 1 9 10 99 9999 10000 ; , ( ) [ ] + - * / % < > ="
            + " @ A _").split(" ");

    private final Random random;
    private final DistantVoice x = new DistantVoice();
    private final Model model = new Model();
    private final int[] refused = new int[6];
    private int calls = 0;
    private String where = "";

    private ModelTest(long number) {
        random = new Random(number);
        where = "run " + number;
    }

    private int below(int n) {
        return random.nextInt(n);
    }

    private String pick(String... of) {
        return of[below(of.length)];
    }

    private String blanks() {
        return pick("", "", " ", "\n", "  ");
    }

    // ---- texts

    private String part(String subject, int depth) {
        int kind = depth > 0 ? below(9) : below(5);
        switch (kind) {
            case 0:
            case 1:
                return "" + pick("0", "1", "2", "3", "5", "7", "10", "30", "100", "9999");
            case 2:
                return pick("night", "hush");
            case 3:
            case 4:
                return subject.equals("goes") ? pick("mile", "rounds") : subject.equals("hears")
                        ? pick("sharp", "row", "far", "far") : "talk";
            case 5:
                return "(" + sum(subject, depth - 1) + ")";
            case 6:
            case 7:
                return pick("min", "max") + blanks() + "(" + sum(subject, depth - 1) + "," + sum(subject, depth - 1) + ")";
            default:
                return "if(" + test(subject, depth - 1) + "," + sum(subject, depth - 1) + "," + sum(subject, depth - 1) + ")";
        }
    }

    private String sum(String subject, int depth) {
        StringBuilder b = new StringBuilder(part(subject, depth));
        int more = below(3);
        for (int i = 0; i < more; i++) {
            b.append(blanks()).append(pick("+", "-", "*", "/", "%", "+", "-")).append(blanks()).append(part(subject, depth));
        }
        return b.toString();
    }

    private String test(String subject, int depth) {
        StringBuilder b = new StringBuilder(fact(subject, depth));
        int more = below(3);
        for (int i = 0; i < more; i++) {
            b.append(" ").append(pick("and", "or")).append(" ").append(fact(subject, depth));
        }
        return b.toString();
    }

    private String fact(String subject, int depth) {
        int kind = depth > 0 ? below(6) : 5;
        switch (kind) {
            case 0:
                return "not " + fact(subject, depth - 1);
            case 1:
                return "[" + test(subject, depth - 1) + "]";
            case 2:
                return pick("all", "all", "not all");
            default:
                return sum(subject, depth) + pick("<", "<", ">", "=") + sum(subject, depth);
        }
    }

    private String house() {
        StringBuilder b = new StringBuilder();
        int miles = pick("a", "b").equals("a") ? 5 + below(20) : 5 + below(196);
        b.append("round ").append(miles).append(";");
        int ears = below(20) == 0 ? 7 : below(6);
        int places = below(Math.min(6, miles - 2));
        for (int i = 0; i < ears; i++) {
            b.append(blanks()).append("ear ").append((char) ('a' + i)).append(pick("", "x", "yzxyz")).append(" row ");
            b.append(below(10)).append(" sharp ").append(below(10)).append(blanks()).append(";");
        }
        int at = below(miles - 1);
        for (int i = 0; i < places; i++) {
            b.append("place ").append((char) ('p' + i)).append(" at ").append(at + 1).append(" talk ").append(below(10));
            b.append(blanks()).append(";");
            at = (at + 1 + below(3)) % (miles - 1);
        }
        if (below(5) > 0) {
            b.append("voice ").append(below(miles)).append(";");
        }
        if (below(5) > 0) {
            b.append("hush ").append(below(10)).append(";");
        }
        if (below(5) > 0) {
            b.append("cough ").append(below(101)).append(";");
        }
        int depth = 1 + below(4);
        if (below(4) > 0) {
            b.append("goes ").append(below(2) == 0 ? sum("goes", depth) : pick("2", "3", "7", "3+night%4", "1+rounds%5",
                    "miles/9+1".replace("miles", "" + miles), "99", "hush+1", "if(mile<9,2,6)")).append(";");
        }
        if (below(4) > 0) {
            b.append("hears ").append(below(3) == 0 ? test("hears", depth) : below(2) == 0
                    ? "far<sharp*" + pick("1", "2", "3") + "+hush-row/" + pick("1", "2", "4")
                    : pick("(night*sharp+row)%7<2", "(far+row*3)%5=sharp%5", "(far+night+sharp*row)%4=hush%4",
                    "far*row%10=sharp", "far>sharp and (night+row)%3=0", "not [far<row or sharp>night%9]")).append(";");
        }
        if (below(3) > 0) {
            b.append("talks ").append(sum("talks", depth)).append(";");
        }
        return b.toString();
    }

    private String spoilt(String text) {
        StringBuilder b = new StringBuilder(text);
        int times = 1 + below(3);
        for (int i = 0; i < times && b.length() > 0; i++) {
            int k = below(b.length());
            switch (below(6)) {
                case 0:
                    b.deleteCharAt(k);
                    break;
                case 1:
                    b.insert(k, pick(WORDS));
                    break;
                case 2:
                    b.insert(k, " " + pick(WORDS) + " ");
                    break;
                case 3:
                    b.setLength(k);
                    break;
                case 4:
                    b.setCharAt(k, pick(WORDS).charAt(0));
                    break;
                default:
                    int end = text.indexOf(';', Math.min(k, text.length())) + 1;
                    int start = text.lastIndexOf(';', Math.max(0, end - 2)) + 1;
                    b.append(text, Math.min(start, end), end);
                    break;
            }
        }
        return b.toString();
    }

    /** A row of pieces that are mostly wrong only at the end: each is kept while the text is wrong at its length. */
    private String grown(String start, int pieces) {
        String text = start;
        Model m = new Model();
        for (int i = 0; i < pieces; i++) {
            String more = text + pick(" ", " ", "") + pick(WORDS);
            World w = new World(m, more);
            if (w.fault == 0 || w.at == more.length()) {
                text = more;
            } else if (below(40) == 0) {
                return more;
            }
        }
        return text;
    }

    /** About as many signs open at once as there may be. */
    private String nested() {
        StringBuilder b = new StringBuilder("round 9;hears ");
        StringBuilder close = new StringBuilder();
        int deep = 6 + below(3);
        boolean fact = true;
        for (int i = 0; i < deep; i++) {
            String open = fact ? pick("not ", "[", "(", "min(1,", "if(") : pick("(", "max(2,", "if(", "if(all,");
            b.append(below(4) == 0 ? fact ? "all and " : "1+" : "").append(open);
            boolean sum = !open.equals("not ") && !open.equals("[");
            close.insert(0, (open.equals("not ") ? "" : open.equals("[") ? "]" : open.equals("if(") ? ",1,2)"
                    : open.equals("if(all,") ? ",3)" : ")") + (fact && sum ? "<3" : ""));
            fact = !sum || open.equals("if(");
        }
        return b.append(fact ? "all" : "1").append(close).append(pick(" and not all;", ";", " or not [(1)<(2)];")).toString();
    }

    private static final class World {
        final int fault;
        final int at;

        World(Model m, String text) {
            m.read(Check.bytes(text));
            fault = m.fault;
            at = m.faultAt;
        }
    }

    // ---- runs

    private void due(String call, long got, long want) {
        Check.due(where + " call " + calls + " " + call, got, want);
    }

    private void due(String call, boolean got, boolean want) {
        due(call, got ? 1 : 0, want ? 1 : 0);
    }

    private void tell(String text) {
        int[] bytes = Check.bytes(text);
        if (bytes.length > 1600) {
            return;
        }
        Check.tape(x, bytes);
        int want = model.house(bytes);
        due("house() of " + text, x.house(), want);
        due("fault(0) of " + text, x.fault(0), model.fault);
        due("fault(1) of " + text, x.fault(1), model.faultAt);
        refused[1] += want == -1 ? 1 : 0;
        calls += bytes.length / 20 + 5;
    }

    private int near(int most) {
        return below(12) == 0 ? pick("a", "b").equals("a") ? -1 - below(2) : most + 1 + below(2) : below(most + 1);
    }

    private int refusal(int kind, int answer) {
        refused[kind] += answer == -1 ? 1 : 0;
        return answer;
    }

    private boolean refusal(int kind, boolean answer) {
        refused[kind] += answer ? 0 : 1;
        return answer;
    }

    private int[] someImage() {
        int[] like = model.image();
        int night = below(3) == 0 ? below(1000) : 935 + below(66);
        int[] tail = new int[like.length - 9];
        for (int i = 0; i < tail.length; i++) {
            tail[i] = below(60) == 0 ? 10 : below(10);
        }
        int rounds = below(4) == 0 ? 997 + below(4) : below(3) == 0 ? 0 : below(50);
        int miles = Math.max(1, model.has(0));
        int mile = below(30) == 0 ? miles : below(miles);
        int talking = below(3) > 0 ? 0 : below(22);
        int hush = below(30) == 0 ? 10 : below(10);
        int[] image = Check.image(night, mile, rounds, talking, hush, tail);
        if (below(15) == 0) {
            image[below(image.length)] ^= 1 << below(8);
        }
        if (below(30) == 0) {
            image = new int[below(30)];
        }
        return image;
    }

    private void useTape() {
        if (below(2) == 0) {
            int[] image = below(3) == 0 ? model.image() : someImage();
            Check.tape(x, image);
            due("on()", x.on(), refusal(5, model.on(image)));
            return;
        }
        int[] rows = new int[3 * (below(20) == 0 ? below(19) : 1 + below(3)) + (below(20) == 0 ? 1 : 0)];
        for (int i = 0; i + 2 < rows.length; i += 3) {
            rows[i] = below(60) == 0 ? 31 : below(2) == 0 ? below(31) : below(6);
            rows[i + 1] = below(Math.max(1, model.has(1)) + (below(40) == 0 ? 1 : 0));
            rows[i + 2] = below(60) == 0 ? 2 : below(2);
        }
        Check.tape(x, rows);
        due("mark()", x.mark(), refusal(5, model.mark(rows)));
    }

    private void act() {
        int ear = near(Math.max(0, model.has(1) - 1));
        int place = near(Math.max(0, model.has(2) - 1));
        int n = below(3) == 0 ? near(60) : 1 + below(6);
        switch (below(8)) {
            case 0:
                due("nights(" + n + ")", x.nights(n), refusal(2, model.nights(n)));
                break;
            case 1:
                due("chance(" + n + ")", x.chance(n), refusal(2, model.chance(n)));
                break;
            case 2:
                int h = near(9);
                due("hush(" + h + ")", x.hush(h), refusal(3, model.hush(h)));
                break;
            case 3:
                int row = near(9);
                due("sit", x.sit(ear, row), refusal(3, model.sit(ear, row)));
                break;
            case 4:
                int talk = near(9);
                due("please", x.please(place, talk), refusal(3, model.please(place, talk)));
                break;
            case 5:
                due("undo()", x.undo(), refusal(4, model.undo()));
                break;
            case 6:
                int seed = random.nextInt();
                due("seed", x.seed(seed), refusal(5, seed >= 0));
                model.seed = seed >= 0 ? seed : model.seed;
                break;
            default:
                useTape();
                break;
        }
    }

    private void ask() {
        int ear = near(Math.max(0, model.has(1) - 1));
        int place = near(Math.max(0, model.has(2) - 1));
        int what = near(2);
        int n = near(60);
        int n40 = below(4) == 0 ? near(40) : 1 + below(8);
        switch (below(17)) {
            case 0:
                due("letter", x.letter(what, ear, n % 7), model.letter(what, ear, n % 7));
                break;
            case 1:
                due("ear", x.ear(ear, what), model.ear(ear, what));
                break;
            case 2:
                due("place", x.place(place, what), model.place(place, what));
                break;
            case 3:
                due("stride", x.stride(), model.stride());
                break;
            case 4:
                due("later(" + n + "," + what + ")", x.later(n, what), model.later(n, what));
                break;
            case 5:
                int times = below(4) == 0 ? near(999) : near(10) + model.has(5);
                due("round(" + times + ")", x.round(times), model.round(times));
                break;
            case 6:
                due("heard(" + n + ")", x.heard(n), model.heard(n));
                break;
            case 7:
                due("often", x.often(ear, n), model.often(ear, n));
                break;
            case 8:
                due("quiet(" + ear + "," + n40 + ")", x.quiet(ear, n40), model.quiet(ear, n40));
                break;
            case 9:
                due("seats(" + n40 + "," + ear + ")", x.seats(n40, ear), model.seats(n40, ear));
                break;
            case 10:
                due("watch(" + n40 + ")", x.watch(n40), model.watch(n40));
                break;
            case 11:
                due("silence(" + n40 + ")", x.silence(n40), model.silence(n40));
                break;
            case 12:
                due("odds(" + ear + ")", x.odds(ear), model.odds(ear));
                break;
            case 13:
                int k = below(3) == 0 ? -1 : near(20);
                due("miles(" + k + ")", x.miles(k), model.miles(k));
                break;
            case 14:
                due("tells(" + what + ")", x.tells(what), model.tells(what));
                break;
            case 15:
                int which = near(Math.max(0, model.has(9) - 1));
                due("kept(" + which + "," + what + ")", x.kept(which, what), model.kept(which, what));
                break;
            default:
                int[] image = model.image();
                due("image()", x.image(), image.length);
                int o = near(image.length - 1);
                due("octet(" + o + ")", x.octet(o), o < 0 || o >= image.length ? -1 : image[o]);
                calls++;
                break;
        }
    }

    private void askAll() {
        for (int i = -1; i <= 13; i++) {
            due("has(" + i + ")", x.has(i), model.has(i));
        }
        for (int i = -1; i <= 6; i++) {
            due("status(" + i + ")", x.status(i), i < 0 || i > 5 ? -1 : refused[i]);
        }
        calls += 23;
    }

    private void run() {
        if (below(10) > 0) {
            tell(below(3) == 0 ? spoilt(house()) : house());
        }
        while (calls < 400) {
            if (below(40) == 0) {
                tell(below(3) == 0 ? spoilt(house()) : house());
            } else if (below(3) == 0) {
                act();
            } else {
                ask();
            }
            calls += 3;
            if (below(50) == 0) {
                askAll();
            }
        }
        askAll();
    }

    private void runTexts() {
        for (int i = 0; i < 8; i++) {
            switch (below(4)) {
                case 0:
                    tell(spoilt(house()));
                    break;
                case 1:
                    tell(below(3) == 0 ? spoilt(nested()) : nested());
                    break;
                case 2:
                    tell(grown(pick("", "round 9;", "round 9;goes ", "round 9;hears ", "round 9;talks "), 60));
                    break;
                default:
                    String many = "round 7;" + "hush 1;".repeat(55 + below(6));
                    tell(many + pick("hush 2;", "", " ", "round 7;", "goes 1;", "ear a row 1 sharp 1;")
                            + pick("", "", "hush 3;", "far"));
                    break;
            }
        }
    }

    public static void main(String[] args) {
        int runs = args.length > 0 ? Integer.parseInt(args[0]) : 300;
        for (int i = 0; i < runs; i++) {
            new ModelTest(i).run();
            for (int j = 0; j < 4; j++) {
                new ModelTest(1000000L + 4 * i + j).runTexts();
            }
        }
        Check.finish();
    }
}
