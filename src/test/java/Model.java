import java.util.ArrayDeque;
import java.util.ArrayList;
import java.util.Arrays;
import java.util.Deque;
import java.util.HashMap;
import java.util.HashSet;
import java.util.List;
import java.util.Map;
import java.util.Set;

/**
 * The document done a second time in other ways (a table of rules with a stack for the text, sums worked out on the
 * text itself, MILE by MILE, every seating tried), so that the class can be compared with it.
 */
final class Model {
    static final Set<String> OWN = new HashSet<>(Arrays.asList(("round voice hush cough ear row sharp place at talk"
            + " goes hears talks night mile rounds far if or and not all min max").split(" ")));

    /** A piece of the text: its first byte, its letters, digits or sign; blame is where it is wrong, or -1. */
    static final class Piece {
        final int at;
        final String s;
        final int blame;

        Piece(int at, String s, int blame) {
            this.at = at;
            this.s = s;
            this.blame = blame;
        }
    }

    static final class State implements Cloneable {
        int night;
        int mile;
        int rounds;
        int talking;
        int hush;
        int[] rows = new int[7];
        int[] talks = new int[6];
        List<int[]> kept = new ArrayList<>();

        State copy() {
            State c = new State();
            c.night = night;
            c.mile = mile;
            c.rounds = rounds;
            c.talking = talking;
            c.hush = hush;
            c.rows = rows.clone();
            c.talks = talks.clone();
            c.kept = new ArrayList<>(kept);
            return c;
        }
    }

    static final class World {
        int miles;
        int voice;
        int hush;
        int cough;
        int statements;
        List<String> ears = new ArrayList<>();
        List<Integer> rows = new ArrayList<>();
        List<Integer> sharps = new ArrayList<>();
        List<String> places = new ArrayList<>();
        List<Integer> at = new ArrayList<>();
        List<Integer> talks = new ArrayList<>();
        Map<String, List<String>> rules = new HashMap<>();
    }

    World world;
    State now = new State();
    long seed = 1;
    int fault;
    int faultAt = -1;
    Deque<State> past = new ArrayDeque<>();
    List<int[]> marked = new ArrayList<>();

    // ---- the text

    static List<Piece> pieces(int[] t) {
        List<Piece> list = new ArrayList<>();
        int i = 0;
        boolean wordBefore = false;
        while (i < t.length) {
            int c = t[i];
            if (c == 10 || c == 32) {
                i++;
                wordBefore = false;
                continue;
            }
            boolean letter = c >= 'a' && c <= 'z';
            boolean digit = c >= '0' && c <= '9';
            StringBuilder b = new StringBuilder();
            int j = i;
            if (letter || digit) {
                while (j < t.length && (letter ? t[j] >= 'a' && t[j] <= 'z' : t[j] >= '0' && t[j] <= '9')) {
                    b.append((char) t[j++]);
                }
            } else {
                b.append((char) t[j++]);
            }
            int most = letter ? 6 : digit ? 4 : 1;
            int blame = -1;
            if ((letter || digit) && wordBefore) {
                blame = i;
            } else if (b.length() > most) {
                blame = i + most;
            }
            list.add(new Piece(i, b.toString(), blame));
            wordBefore = letter || digit;
            i = j;
        }
        list.add(new Piece(t.length, "", -1));
        return list;
    }

    static boolean isNumber(String s) {
        return !s.isEmpty() && Character.isDigit(s.charAt(0));
    }

    static boolean isWord(String s) {
        return !s.isEmpty() && s.charAt(0) >= 'a' && s.charAt(0) <= 'z';
    }

    static final Map<String, String> SHAPES = new HashMap<>();

    static {
        SHAPES.put("voice", "voice N:voice ;");
        SHAPES.put("hush", "hush N:hush ;");
        SHAPES.put("cough", "cough N:cough ;");
        SHAPES.put("ear", "ear NAME:ear row N:row sharp N:sharp ;");
        SHAPES.put("place", "place NAME:place at N:at talk N:talk ;");
        SHAPES.put("goes", "goes BEGIN SUM SAVE:goes ;");
        SHAPES.put("hears", "hears BEGIN TEST SAVE:hears ;");
        SHAPES.put("talks", "talks BEGIN SUM SAVE:talks ;");
    }

    /** The text by a stack of what must come yet. */
    World read(int[] t) {
        List<Piece> list = pieces(t);
        World w = new World();
        Deque<String> due = new ArrayDeque<>();
        pushAll(due, "round N:round ; REST");
        int i = 0;
        int begin = 0;
        int open = 0;
        String subject = "";
        while (!due.isEmpty()) {
            String want = due.pop();
            Piece p = list.get(i);
            boolean bad = p.blame >= 0;
            if (want.equals("REST")) {
                if (p.at == t.length && p.s.isEmpty()) {
                    continue;
                }
                if (w.statements == 60) {
                    return no(6, p.at);
                }
                if (bad || !SHAPES.containsKey(p.s)) {
                    return no(1, bad ? p.blame : p.at);
                }
                boolean full = p.s.equals("ear") && w.ears.size() == 7 || p.s.equals("place") && w.places.size() == 6
                        || w.rules.containsKey(p.s);
                if (full) {
                    return no(6, p.at);
                }
                subject = p.s;
                due.push("REST");
                pushAll(due, SHAPES.get(p.s));
            } else if (want.equals("BEGIN")) {
                begin = i;
                open = 0;
            } else if (want.startsWith("SAVE:")) {
                List<String> rule = new ArrayList<>();
                for (int k = begin; k < i; k++) {
                    rule.add(list.get(k).s);
                }
                w.rules.put(want.substring(5), rule);
            } else if (want.equals("CLOSE")) {
                open--;
            } else if (want.startsWith("N:")) {
                if (bad || !isNumber(p.s)) {
                    return no(1, bad ? p.blame : p.at);
                }
                if (!number(w, want.substring(2), Integer.parseInt(p.s))) {
                    return no(4, p.at);
                }
                i++;
            } else if (want.startsWith("NAME:")) {
                if (bad || !isWord(p.s) || OWN.contains(p.s)) {
                    return no(1, bad ? p.blame : p.at);
                }
                if (w.ears.contains(p.s) || w.places.contains(p.s)) {
                    return no(2, p.at);
                }
                (want.endsWith("ear") ? w.ears : w.places).add(p.s);
                i++;
            } else if (want.equals(want.toUpperCase()) && isUpper(want)) {
                String rule = bad ? null : rule(want, p.s, subject);
                if (rule == null) {
                    return no(1, bad ? p.blame : p.at);
                }
                pushAll(due, rule);
            } else {
                if (bad || !p.s.equals(want)) {
                    return no(1, bad ? p.blame : p.at);
                }
                if (want.equals("(") || want.equals("[") || want.equals("not")) {
                    if (open == 7) {
                        return no(5, p.at);
                    }
                    open++;
                }
                i++;
                if (want.equals(";")) {
                    w.statements++;
                }
            }
        }
        fault = 0;
        faultAt = -1;
        return w;
    }

    static boolean isUpper(String s) {
        return s.charAt(0) >= 'A' && s.charAt(0) <= 'Z';
    }

    static void pushAll(Deque<String> due, String symbols) {
        if (symbols.isEmpty()) {
            return;
        }
        String[] s = symbols.split(" ");
        for (int i = s.length - 1; i >= 0; i--) {
            due.push(s[i]);
        }
    }

    World no(int kind, int at) {
        fault = kind;
        faultAt = at;
        return null;
    }

    static boolean number(World w, String whose, int n) {
        switch (whose) {
            case "round":
                w.miles = n;
                return n >= 5 && n <= 200;
            case "voice":
                w.voice = n;
                return n < w.miles;
            case "hush":
                w.hush = n;
                return n <= 9;
            case "cough":
                w.cough = n;
                return n <= 100;
            case "row":
                w.rows.add(n);
                return n <= 9;
            case "sharp":
                w.sharps.add(n);
                return n <= 9;
            case "at":
                if (w.at.contains(n)) {
                    return false;
                }
                w.at.add(n);
                return n >= 1 && n < w.miles;
            default:
                w.talks.add(n);
                return n <= 9;
        }
    }

    static String rule(String want, String s, String subject) {
        switch (want) {
            case "TEST":
                return "BOTH ORS";
            case "ORS":
                return s.equals("or") ? "or BOTH ORS" : "";
            case "BOTH":
                return "FACT ANDS";
            case "ANDS":
                return s.equals("and") ? "and FACT ANDS" : "";
            case "FACT":
                return s.equals("not") ? "not FACT CLOSE" : s.equals("[") ? "[ TEST ] CLOSE" : s.equals("all") ? "all"
                        : "SUM SIGN SUM";
            case "SIGN":
                return s.equals("<") || s.equals(">") || s.equals("=") ? s : null;
            case "SUM":
                return "PRODUCT ADDS";
            case "ADDS":
                return s.equals("+") || s.equals("-") ? s + " PRODUCT ADDS" : "";
            case "PRODUCT":
                return "PART TIMES";
            case "TIMES":
                return s.equals("*") || s.equals("/") || s.equals("%") ? s + " PART TIMES" : "";
            default:
                return part(s, subject);
        }
    }

    static String part(String s, String subject) {
        String variables = subject.equals("goes") ? "mile rounds" : subject.equals("hears") ? "sharp row far" : "talk";
        if (isNumber(s)) {
            return s;
        }
        if (s.equals("(")) {
            return "( SUM ) CLOSE";
        }
        if (s.equals("min") || s.equals("max")) {
            return s + " ( SUM , SUM ) CLOSE";
        }
        if (s.equals("if")) {
            return "if ( TEST , SUM , SUM ) CLOSE";
        }
        return Arrays.asList((variables + " night hush").split(" ")).contains(s) ? s : null;
    }

    // ---- sums and tests, worked out along their own pieces

    static final class Worker {
        final List<String> s;
        final Map<String, Integer> values;
        int i = 0;

        Worker(List<String> s, Map<String, Integer> values) {
            this.s = s;
            this.values = values;
        }

        String peek() {
            return i < s.size() ? s.get(i) : "";
        }

        boolean eat(String what) {
            if (peek().equals(what)) {
                i++;
                return true;
            }
            return false;
        }

        static long cut(long x) {
            return x > 1000000 ? 1000000 : x < -1000000 ? -1000000 : x;
        }

        boolean test() {
            boolean b = both();
            while (eat("or")) {
                b |= both();
            }
            return b;
        }

        boolean both() {
            boolean b = fact();
            while (eat("and")) {
                b &= fact();
            }
            return b;
        }

        boolean fact() {
            if (eat("not")) {
                return !fact();
            }
            if (eat("[")) {
                boolean b = test();
                eat("]");
                return b;
            }
            if (eat("all")) {
                return true;
            }
            long a = sum();
            String sign = s.get(i++);
            long b = sum();
            return sign.equals("<") ? a < b : sign.equals(">") ? a > b : a == b;
        }

        long sum() {
            long a = product();
            while (peek().equals("+") || peek().equals("-")) {
                boolean plus = s.get(i++).equals("+");
                long b = product();
                a = cut(plus ? a + b : a - b);
            }
            return a;
        }

        long product() {
            long a = part();
            while (peek().equals("*") || peek().equals("/") || peek().equals("%")) {
                String sign = s.get(i++);
                long b = part();
                long q = b == 0 ? 0 : (long) Math.floor((double) a / (double) b);
                a = cut(sign.equals("*") ? a * b : b == 0 ? 0 : sign.equals("/") ? q : a - b * q);
            }
            return a;
        }

        long part() {
            String p = s.get(i++);
            long r;
            if (isNumber(p)) {
                return Integer.parseInt(p);
            }
            if (p.equals("(")) {
                r = sum();
                eat(")");
                return r;
            }
            if (p.equals("min") || p.equals("max") || p.equals("if")) {
                eat("(");
                boolean holds = false;
                if (p.equals("if")) {
                    holds = test();
                    eat(",");
                }
                long a = sum();
                eat(",");
                long b = sum();
                eat(")");
                return p.equals("min") ? Math.min(a, b) : p.equals("max") ? Math.max(a, b) : holds ? a : b;
            }
            return values.get(p);
        }
    }

    // ---- nights

    int far(int mile) {
        return world == null ? 0 : Math.min(mile, world.miles - mile);
    }

    int stride(State v, int hush) {
        List<String> rule = world.rules.get("goes");
        if (rule == null) {
            return 1;
        }
        Map<String, Integer> m = new HashMap<>();
        m.put("night", v.night);
        m.put("hush", hush);
        m.put("mile", v.mile);
        m.put("rounds", v.rounds);
        long r = new Worker(rule, m).sum();
        return (int) Math.max(0, Math.min(99, r));
    }

    int talkFor(State v, int place, int hush) {
        List<String> rule = world.rules.get("talks");
        if (rule == null) {
            return v.talks[place];
        }
        Map<String, Integer> m = new HashMap<>();
        m.put("night", v.night);
        m.put("hush", hush);
        m.put("talk", v.talks[place]);
        long r = new Worker(rule, m).sum();
        return (int) Math.max(0, Math.min(20, r));
    }

    boolean hears(State v, int ear, int hush) {
        List<String> rule = world.rules.get("hears");
        if (rule == null) {
            return far(v.mile) <= 9;
        }
        Map<String, Integer> m = new HashMap<>();
        m.put("night", v.night);
        m.put("hush", hush);
        m.put("sharp", world.sharps.get(ear));
        m.put("row", v.rows[ear]);
        m.put("far", far(v.mile));
        return new Worker(rule, m).test();
    }

    int pass(State v, int hush) {
        if (v.talking > 0) {
            v.talking--;
        } else {
            int steps = stride(v, hush);
            for (int i = 0; i < steps; i++) {
                v.mile++;
                if (v.mile == world.miles) {
                    v.mile = 0;
                    v.rounds = Math.min(999, v.rounds + 1);
                }
                int place = world.at.indexOf(v.mile);
                if (place >= 0) {
                    v.talking = talkFor(v, place, hush);
                    break;
                }
            }
        }
        int bits = 0;
        for (int e = 0; e < world.ears.size(); e++) {
            bits |= hears(v, e, hush) ? 1 << e : 0;
        }
        v.night = Math.min(999, v.night + 1);
        return bits;
    }

    boolean comes(int n, int least, int most) {
        return world != null && n >= least && n <= most && now.night + n <= 999;
    }

    boolean isEar(int e) {
        return world != null && e >= 0 && e < world.ears.size();
    }

    boolean isPlace(int p) {
        return world != null && p >= 0 && p < world.places.size();
    }

    // ---- the calls

    int house(int[] t) {
        World w = read(t);
        if (w == null) {
            return -1;
        }
        world = w;
        now = new State();
        now.mile = w.voice;
        now.hush = w.hush;
        for (int i = 0; i < w.rows.size(); i++) {
            now.rows[i] = w.rows.get(i);
        }
        for (int i = 0; i < w.talks.size(); i++) {
            now.talks[i] = w.talks.get(i);
        }
        past.clear();
        marked.clear();
        return w.statements;
    }

    int has(int what) {
        if (what == 12) {
            return (int) seed;
        }
        if (what < 0 || what > 12) {
            return -1;
        }
        if (world == null) {
            return 0;
        }
        int[] all = {world.miles, world.ears.size(), world.places.size(), now.night, now.mile, now.rounds, now.talking,
            now.hush, far(now.mile), Math.min(40, now.kept.size()), marked.size(), past.size()};
        return all[what];
    }

    int letter(int kind, int which, int k) {
        if (world == null || kind < 0 || kind > 1 || k < 0 || k > 5) {
            return -1;
        }
        List<String> names = kind == 0 ? world.ears : world.places;
        if (which < 0 || which >= names.size()) {
            return -1;
        }
        String s = names.get(which);
        return k < s.length() ? s.charAt(k) - 'a' + 1 : 0;
    }

    int ear(int e, int what) {
        if (!isEar(e) || what < 0 || what > 2) {
            return -1;
        }
        return what == 0 ? now.rows[e] : what == 1 ? world.sharps.get(e) : hears(now, e, now.hush) ? 1 : 0;
    }

    int place(int p, int what) {
        if (!isPlace(p) || what < 0 || what > 2) {
            return -1;
        }
        return what == 0 ? world.at.get(p) : what == 1 ? now.talks[p] : talkFor(now, p, now.hush);
    }

    int stride() {
        return world == null ? -1 : stride(now, now.hush);
    }

    int later(int n, int what) {
        if (!comes(n, 0, 60) || what < 0 || what > 2) {
            return -1;
        }
        State v = now.copy();
        for (int i = 0; i < n; i++) {
            pass(v, v.hush);
        }
        return what == 0 ? v.mile : what == 1 ? v.rounds : v.talking;
    }

    int round(int times) {
        if (world == null || times < 0 || times > 999) {
            return -1;
        }
        for (int n = 0; n <= 60 && now.night + n <= 999; n++) {
            if (later(n, 1) >= times) {
                return n;
            }
        }
        return -1;
    }

    int heard(int n) {
        return n < 0 || n > 59 || !comes(n + 1, 1, 60) ? -1 : ahead(now.copy(), n + 1).get(n);
    }

    List<Integer> ahead(State v, int n) {
        List<Integer> bits = new ArrayList<>();
        for (int i = 0; i < n; i++) {
            bits.add(pass(v, v.hush));
        }
        return bits;
    }

    static int count(List<Integer> bits, int ear) {
        int c = 0;
        for (int b : bits) {
            c += b >> ear & 1;
        }
        return c;
    }

    int often(int e, int n) {
        return !isEar(e) || !comes(n, 0, 60) ? -1 : count(ahead(now.copy(), n), e);
    }

    int quiet(int e, int n) {
        if (!isEar(e) || !comes(n, 1, 40)) {
            return -1;
        }
        for (int h = 0; h < 10; h++) {
            State v = now.copy();
            v.hush = h;
            if (count(ahead(v, n), e) > 0) {
                return h;
            }
        }
        return -1;
    }

    int bestSeats;
    int[] bestRows;

    int seats(int n, int e) {
        if (!comes(n, 1, 40) || e != -1 && !isEar(e)) {
            return -1;
        }
        int ears = world.ears.size();
        int[][] gain = new int[10][];
        for (int r = 0; r < 10; r++) {
            State v = now.copy();
            Arrays.fill(v.rows, r);
            List<Integer> bits = ahead(v, n);
            gain[r] = new int[ears];
            for (int k = 0; k < ears; k++) {
                gain[r][k] = count(bits, k);
            }
        }
        bestSeats = -1;
        trySeats(gain, new int[ears], 0, 0, 0);
        return e == -1 ? bestSeats : bestRows[e];
    }

    /** In the order of the rows, so that the first of like ones stays. */
    void trySeats(int[][] gain, int[] rows, int k, int taken, int sum) {
        if (k == rows.length) {
            if (sum > bestSeats) {
                bestSeats = sum;
                bestRows = rows.clone();
            }
            return;
        }
        for (int r = 0; r < 10; r++) {
            if ((taken >> r & 1) == 0) {
                rows[k] = r;
                trySeats(gain, rows, k + 1, taken | 1 << r, sum + gain[r][k]);
            }
        }
    }

    int watch(int n) {
        if (!comes(n, 1, 40)) {
            return -1;
        }
        List<Integer> bits = ahead(now.copy(), n);
        for (int size = 0; size <= 7; size++) {
            for (int m = 0; m < 128; m++) {
                boolean all = Integer.bitCount(m) == size;
                for (int b : bits) {
                    all &= b == 0 || (b & m) != 0;
                }
                if (all) {
                    return m;
                }
            }
        }
        throw new IllegalStateException("all EARS hear all that is heard");
    }

    int silence(int n) {
        if (!comes(n, 1, 40)) {
            return -1;
        }
        for (int size = 0; size <= world.places.size(); size++) {
            for (int m = 0; m < 1 << world.places.size(); m++) {
                State v = now.copy();
                for (int p = 0; p < 6; p++) {
                    v.talks[p] *= 1 - (m >> p & 1);
                }
                ahead(v, n);
                if (Integer.bitCount(m) == size && v.rounds > now.rounds) {
                    return m;
                }
            }
        }
        return -1;
    }

    int odds(int e) {
        if (!isEar(e) || now.night >= 999) {
            return -1;
        }
        int c = 0;
        for (int a = 0; a < 100; a++) {
            for (int b = 0; b < 10; b++) {
                c += pass(now.copy(), a < world.cough ? b : now.hush) >> e & 1;
            }
        }
        return c;
    }

    int mark(int[] t) {
        List<int[]> rows = new ArrayList<>();
        if (world == null || t.length == 0 || t.length % 3 != 0 || t.length > 48) {
            return -1;
        }
        for (int i = 0; i < t.length; i += 3) {
            if (t[i] > 30 || !isEar(t[i + 1]) || t[i + 2] > 1) {
                return -1;
            }
            rows.add(new int[] {t[i], t[i + 1], t[i + 2]});
        }
        marked = rows;
        return rows.size();
    }

    List<Integer> left() {
        List<Integer> left = new ArrayList<>();
        for (int m = 0; m < world.miles; m++) {
            boolean so = true;
            for (int[] row : marked) {
                if (now.night + row[0] + 1 > 999) {
                    so = false;
                } else {
                    State v = now.copy();
                    v.mile = m;
                    v.talking = 0;
                    so &= (ahead(v, row[0] + 1).get(row[0]) >> row[1] & 1) == row[2];
                }
            }
            if (so) {
                left.add(m);
            }
        }
        return left;
    }

    int miles(int k) {
        if (world == null || k < -1) {
            return -1;
        }
        List<Integer> left = left();
        return k == -1 ? left.size() : k < left.size() ? left.get(k) : -1;
    }

    int tells(int what) {
        if (world == null || what < 0 || what > 2) {
            return -1;
        }
        int[] best = {-1, -1, Integer.MAX_VALUE};
        List<List<Integer>> all = new ArrayList<>();
        int n = Math.min(31, 999 - now.night);
        for (int m : left()) {
            State v = now.copy();
            v.mile = m;
            v.talking = 0;
            all.add(ahead(v, n));
        }
        for (int i = 0; i < n && !all.isEmpty(); i++) {
            for (int e = 0; e < world.ears.size(); e++) {
                int hearing = 0;
                for (List<Integer> bits : all) {
                    hearing += bits.get(i) >> e & 1;
                }
                int most = Math.max(hearing, all.size() - hearing);
                if (most < best[2]) {
                    best = new int[] {i, e, most};
                }
            }
        }
        return best[0] == -1 ? -1 : best[what];
    }

    void remember() {
        past.addLast(now.copy());
        if (past.size() > 20) {
            past.removeFirst();
        }
    }

    boolean live(int hush) {
        int night = now.night;
        int bits = pass(now, hush);
        if (bits != 0) {
            now.kept.add(new int[] {night, now.mile, bits});
        }
        return bits != 0;
    }

    int nights(int n) {
        if (!comes(n, 1, 60)) {
            return -1;
        }
        remember();
        int c = 0;
        for (int i = 0; i < n; i++) {
            c += live(now.hush) ? 1 : 0;
        }
        return c;
    }

    int draw(int m) {
        seed = (1103515245L * seed + 12345) % (1L << 31);
        return (int) (seed / 64 % m);
    }

    int chance(int n) {
        if (!comes(n, 1, 60)) {
            return -1;
        }
        remember();
        int c = 0;
        for (int i = 0; i < n; i++) {
            boolean cough = draw(100) < world.cough;
            live(cough ? draw(10) : now.hush);
            c += cough ? 1 : 0;
        }
        return c;
    }

    boolean hush(int h) {
        if (world == null || h < 0 || h > 9 || h == now.hush) {
            return false;
        }
        remember();
        now.hush = h;
        return true;
    }

    boolean sit(int e, int r) {
        if (!isEar(e) || r < 0 || r > 9 || r == now.rows[e]) {
            return false;
        }
        remember();
        now.rows[e] = r;
        return true;
    }

    boolean please(int p, int t) {
        if (!isPlace(p) || t < 0 || t > 9 || t == now.talks[p]) {
            return false;
        }
        remember();
        now.talks[p] = t;
        return true;
    }

    boolean undo() {
        if (past.isEmpty()) {
            return false;
        }
        now = past.removeLast();
        return true;
    }

    int kept(int k, int what) {
        int told = Math.min(40, now.kept.size());
        return k < 0 || k >= told || what < 0 || what > 2 ? -1 : now.kept.get(now.kept.size() - told + k)[what];
    }

    int[] image() {
        int[] tail = new int[world == null ? 0 : world.ears.size() + world.places.size()];
        for (int i = 0; i < tail.length; i++) {
            int ears = world.ears.size();
            tail[i] = i < ears ? now.rows[i] : now.talks[i - ears];
        }
        return Check.image(now.night, now.mile, now.rounds, now.talking, now.hush, tail);
    }

    boolean on(int[] t) {
        int[] like = image();
        if (world == null || t.length != like.length) {
            return false;
        }
        int[] tail = Arrays.copyOfRange(t, 8, t.length - 1);
        State v = new State();
        v.night = 256 * t[0] + t[1];
        v.mile = 256 * t[2] + t[3];
        v.rounds = 256 * t[4] + t[5];
        v.talking = t[6];
        v.hush = t[7];
        int ears = world.ears.size();
        for (int i = 0; i < tail.length; i++) {
            if (tail[i] > 9) {
                return false;
            }
            if (i < ears) {
                v.rows[i] = tail[i];
            } else {
                v.talks[i - ears] = tail[i];
            }
        }
        if (!Arrays.equals(t, Check.image(v.night, v.mile, v.rounds, v.talking, v.hush, tail)) || v.night > 999
                || v.rounds > 999 || v.mile >= world.miles || v.talking > 20 || v.hush > 9) {
            return false;
        }
        now = v;
        past.clear();
        return true;
    }
}
