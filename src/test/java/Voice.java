import java.util.LinkedHashMap;
import java.util.Map;
import java.util.function.BooleanSupplier;
import java.util.function.IntSupplier;

/** A DistantVoice whose calls are counted (512 at most are promised), and whose whole state can be looked at. */
final class Voice {
    static final String HOME = "round 20;voice 14;hush 3;cough 50;ear top row 9 sharp 8;ear pit row 1 sharp 4;"
            + "place port at 17 talk 2;place isle at 5 talk 0;goes 4+rounds;hears far<sharp+hush-row/4;talks talk+hush/3;";
    private static final int MOST_CALLS = 512;
    private static final int KINDS = 6;
    private final DistantVoice x = new DistantVoice();
    private int calls = 0;

    private DistantVoice x() {
        calls++;
        Check.due("an object is used for 512 calls at most", calls <= MOST_CALLS, true);
        return x;
    }

    /** A new object with that house. */
    static Voice of(String text) {
        Voice v = new Voice();
        Check.due("house of " + text, v.tell(text) > 0, true);
        return v;
    }

    /** A new object with that house, at the moment that an image tells. */
    static Voice at(String text, int night, int mile, int rounds, int talking, int hush, int... rowsAndTalks) {
        Voice v = of(text);
        Check.due("on", v.image(night, mile, rounds, talking, hush, rowsAndTalks), true);
        return v;
    }

    /** One that has much to lose: NIGHTS, KEPT rows, ACTS, MARKED rows, an image, a seed, refusals, a FAULT. */
    static Voice lived() {
        Voice v = of(HOME);
        v.seed(77);
        v.nights(3);
        v.chance(2);
        v.hush(8);
        v.sit(1, 2);
        v.please(1, 1);
        v.rows(0, 0, 1);
        v.image();
        v.end(1);
        v.tell("round 4;");
        v.nights(0);
        v.hush(8);
        v.seed(-1);
        return v;
    }

    // ---- the tape

    void bytes(int... bytes) {
        int[] five = new int[5];
        for (int from = 0; from < bytes.length; from += 20) {
            for (int i = 0; i < 20; i++) {
                int octet = from + i < bytes.length ? bytes[from + i] & 255 : 0;
                five[i / 4] = five[i / 4] << 8 | octet;
            }
            Check.due("feed", feed(five[0], five[1], five[2], five[3], five[4]), from + 20);
        }
        Check.due("end", end(bytes.length), true);
    }

    void text(String text) {
        bytes(Check.bytes(text));
    }

    int tell(String text) {
        text(text);
        return house();
    }

    int rows(int... rows) {
        bytes(rows);
        return mark();
    }

    boolean image(int night, int mile, int rounds, int talking, int hush, int... rowsAndTalks) {
        return back(Check.image(night, mile, rounds, talking, hush, rowsAndTalks));
    }

    boolean back(int... image) {
        bytes(image);
        return on();
    }

    /** Whether nothing is on the tape; a refusal is made by it. */
    boolean tapeIsEmpty() {
        return !end(1);
    }

    // ---- looking at all that can be seen

    private static void put(Map<String, Integer> seen, String what, int value) {
        seen.put(what, value);
    }

    /** All that questions tell, but for what is on the tape. */
    Map<String, Integer> seen() {
        Map<String, Integer> seen = new LinkedHashMap<>();
        for (int i = 0; i <= 12; i++) {
            put(seen, "has " + i, has(i));
        }
        for (int i = 0; i < KINDS; i++) {
            put(seen, "status " + i, status(i));
        }
        put(seen, "fault 0", fault(0));
        put(seen, "fault 1", fault(1));
        seeEarsAndPlaces(seen);
        put(seen, "stride", stride());
        put(seen, "heard 0", heard(0));
        put(seen, "miles", miles(-1));
        for (int i = 0; i < 3; i++) {
            put(seen, "later 1 " + i, later(1, i));
            put(seen, "tells " + i, tells(i));
        }
        seeKept(seen);
        for (int k = 0; k < 23; k++) {
            int octet = octet(k);
            put(seen, "octet " + k, octet);
            if (octet == -1) {
                break;
            }
        }
        return seen;
    }

    private void seeEarsAndPlaces(Map<String, Integer> seen) {
        for (int i = 0; i < seen.get("has 1"); i++) {
            put(seen, "letter of ear " + i, letter(0, i, 0));
            for (int what = 0; what < 3; what++) {
                put(seen, "ear " + i + " " + what, ear(i, what));
            }
        }
        for (int i = 0; i < seen.get("has 2"); i++) {
            put(seen, "letter of place " + i, letter(1, i, 0));
            for (int what = 0; what < 3; what++) {
                put(seen, "place " + i + " " + what, place(i, what));
            }
        }
    }

    private void seeKept(Map<String, Integer> seen) {
        int told = seen.get("has 9");
        for (int k = 0; k < told; k++) {
            if (k < 2 || k >= told - 2) {
                for (int what = 0; what < 3; what++) {
                    put(seen, "kept " + k + " " + what, kept(k, what));
                }
            }
        }
    }

    static void same(String what, Map<String, Integer> got, Map<String, Integer> want) {
        Check.due(what + ": as much is there", got.size(), want.size());
        for (Map.Entry<String, Integer> e : want.entrySet()) {
            Check.due(what + ": " + e.getKey(), got.getOrDefault(e.getKey(), -99), e.getValue());
        }
    }

    /** A call that is refused: what it answers, one more in status, and nothing else has changed. */
    void refuses(int kind, String call, IntSupplier made) {
        Map<String, Integer> ahead = seen();
        Check.due(call + " answers NONE", made.getAsInt(), -1);
        afterRefusal(kind, call, ahead);
    }

    void refuses(int kind, String call, BooleanSupplier made) {
        Map<String, Integer> ahead = seen();
        Check.due(call + " answers false", made.getAsBoolean(), false);
        afterRefusal(kind, call, ahead);
    }

    private void afterRefusal(int kind, String call, Map<String, Integer> ahead) {
        ahead.merge("status " + kind, 1, Integer::sum);
        same(call + " changes nothing but status " + kind, seen(), ahead);
    }

    /** A question: what it answers, and that nothing has changed, no refusal either. */
    void answers(String call, int due, IntSupplier made) {
        Map<String, Integer> ahead = seen();
        Check.due(call, made.getAsInt(), due);
        same(call + " changes nothing", seen(), ahead);
    }

    void answersNone(String call, IntSupplier made) {
        answers(call, -1, made);
    }

    // ---- the calls themselves

    int feed(int a, int b, int c, int d, int e) {
        return x().feed(a, b, c, d, e);
    }

    boolean end(int n) {
        return x().end(n);
    }

    int house() {
        return x().house();
    }

    int fault(int what) {
        return x().fault(what);
    }

    int has(int what) {
        return x().has(what);
    }

    int letter(int kind, int which, int k) {
        return x().letter(kind, which, k);
    }

    int ear(int ear, int what) {
        return x().ear(ear, what);
    }

    int place(int place, int what) {
        return x().place(place, what);
    }

    int stride() {
        return x().stride();
    }

    int later(int n, int what) {
        return x().later(n, what);
    }

    int round(int times) {
        return x().round(times);
    }

    int heard(int n) {
        return x().heard(n);
    }

    int often(int ear, int n) {
        return x().often(ear, n);
    }

    int quiet(int ear, int n) {
        return x().quiet(ear, n);
    }

    int seats(int n, int ear) {
        return x().seats(n, ear);
    }

    int watch(int n) {
        return x().watch(n);
    }

    int silence(int n) {
        return x().silence(n);
    }

    int odds(int ear) {
        return x().odds(ear);
    }

    int mark() {
        return x().mark();
    }

    int miles(int k) {
        return x().miles(k);
    }

    int tells(int what) {
        return x().tells(what);
    }

    int nights(int n) {
        return x().nights(n);
    }

    int chance(int n) {
        return x().chance(n);
    }

    boolean hush(int hush) {
        return x().hush(hush);
    }

    boolean sit(int ear, int row) {
        return x().sit(ear, row);
    }

    boolean please(int place, int talk) {
        return x().please(place, talk);
    }

    boolean undo() {
        return x().undo();
    }

    boolean seed(int seed) {
        return x().seed(seed);
    }

    int kept(int k, int what) {
        return x().kept(k, what);
    }

    int image() {
        return x().image();
    }

    int octet(int k) {
        return x().octet(k);
    }

    boolean on() {
        return x().on();
    }

    int status(int what) {
        return x().status(what);
    }
}
