import java.util.Arrays;

/** A voice that goes round the world night by night, and the ears of a house that hear it. */
public final class DistantVoice {
    public static final int NONE = -1;

    private static final int LAST_NIGHT = 999;
    private static final int MOST_ROUNDS = 999;
    private static final int MOST_AHEAD = 60;
    private static final int MOST_PLANNED = 40;
    private static final int MOST_STRIDE = 99;
    private static final int MOST_TALKING = 20;
    private static final int TOP_DIGIT = 9;
    private static final int MOST_BYTES = 1600;
    private static final int BYTES_FED = 20;
    private static final int MOST_EARS = 7;
    private static final int MOST_PLACES = 6;
    private static final int MOST_STATEMENTS = 60;
    private static final int MOST_OPEN = 7;
    private static final int LEAST_MILES = 5;
    private static final int MOST_MILES = 200;
    private static final int COUGH_DRAW = 100;
    private static final int HUSH_DRAW = 10;
    private static final int SEAT_ROWS = 10;
    private static final int MARK_NIGHTS = 31;
    private static final int MOST_MARKS = 16;
    private static final int MARK_BYTES = 3;
    private static final int ACTS_UNDONE = 20;
    private static final int KEPT_TOLD = 40;
    // What is KEPT of a NIGHT is one number: EARS in the lowest 7 bits, the MILE in 8, above them the NIGHT.
    private static final int KEPT_MILE = 7;
    private static final int KEPT_NIGHT = 15;
    private static final int IMAGE_HEAD = 8;
    private static final int CHECK_START = 239;
    private static final int MOST_RESULT = 1000000;
    private static final int FAR_WITHOUT_TEST = 10;
    private static final int STACK_ROOM = 64;
    private static final int FIRST_SEED = 1;

    private static final int NAME_LETTERS = 6;
    private static final int NUMBER_DIGITS = 4;
    private static final int NAME_BASE = 27;

    private static final int FAULT_BYTE = 1;
    private static final int FAULT_NAME = 2;
    private static final int FAULT_NUMBER = 4;
    private static final int FAULT_OPEN = 5;
    private static final int FAULT_COUNT = 6;

    private static final int OF_TAPE = 0;
    private static final int OF_HOUSE = 1;
    private static final int OF_NIGHTS = 2;
    private static final int OF_CHANGES = 3;
    private static final int OF_UNDO = 4;
    private static final int OF_OTHERS = 5;
    private static final int REFUSALS = 6;

    // The pieces of a text: a sign is its own byte; an own word is FIRST_WORD and its place in OWN_WORDS.
    private static final int END = -1;
    private static final int BAD = -2;
    private static final int NUMBER = -3;
    private static final int NAME = -4;
    private static final String SIGNS = ";,()[]+-*/%<>=";
    private static final String OWN_WORDS = "round voice hush cough ear row sharp place at talk goes hears talks night mile rounds far if or and not all min max ";
    private static final int OWN_WORD_COUNT = 24;
    private static final int FIRST_WORD = 300;
    private static final int ROUND = 300;
    private static final int VOICE = 301;
    private static final int HUSH = 302;
    private static final int COUGH = 303;
    private static final int EAR = 304;
    private static final int ROW = 305;
    private static final int SHARP = 306;
    private static final int PLACE = 307;
    private static final int AT = 308;
    private static final int TALK = 309;
    private static final int GOES = 310;
    private static final int HEARS = 311;
    private static final int TALKS = 312;
    private static final int NIGHT = 313;
    private static final int MILE = 314;
    private static final int ROUNDS = 315;
    private static final int FAR = 316;
    private static final int IF = 317;
    private static final int OR = 318;
    private static final int AND = 319;
    private static final int NOT = 320;
    private static final int ALL = 321;
    private static final int MIN = 322;
    private static final int MAX = 323;

    // The code of a SUM or a TEST: a number is itself; the others are one of these and the piece of the text.
    private static final int VARIABLE = 10000;
    private static final int OPERATOR = 20000;

    private final Tape tape = new Tape();
    private final Moment now = new Moment();
    private final Moment walk = new Moment();
    private final Past past = new Past();
    private final Marks marks = new Marks();
    private final Seating seating = new Seating();
    private final Image picture = new Image();
    private final int[] heardAhead = new int[MOST_AHEAD];
    private final int[] tally = new int[MARK_NIGHTS * MOST_EARS];
    private final int[] refused = new int[REFUSALS];
    private House home = new House();
    private final Course course = new Course(home);
    private int drawn = 0;
    private int faultKind = 0;
    private int faultPlace = NONE;

    public DistantVoice() {
        drawn = FIRST_SEED;
    }

    public int feed(int a, int b, int c, int d, int e) {
        if (tape.length > MOST_BYTES - BYTES_FED) {
            return refuseNumber(OF_TAPE);
        }
        tape.add(a);
        tape.add(b);
        tape.add(c);
        tape.add(d);
        tape.add(e);
        return tape.length;
    }

    public boolean end(int n) {
        if (n < 0 || n > tape.length) {
            return refuse(OF_TAPE);
        }
        tape.length = n;
        return true;
    }

    public int house() {
        Text text = new Text(tape);
        text.readPieces();
        House told = new HouseReader(text).readHouse();
        tape.length = 0;
        faultKind = text.fault;
        faultPlace = text.faultAt;
        if (faultKind != 0) {
            return refuseNumber(OF_HOUSE);
        }
        home = told;
        course.home = told;
        now.begin(told);
        past.acts = 0;
        marks.count = 0;
        return told.statements;
    }

    public int fault(int what) {
        switch (what) {
            case 0:
                return faultKind;
            case 1:
                return faultPlace;
            default:
                return NONE;
        }
    }

    public int has(int what) {
        switch (what) {
            case 0:
                return home.roundMiles;
            case 1:
                return home.ears;
            case 2:
                return home.places;
            case 3:
                return now.night;
            case 4:
                return now.mile;
            case 5:
                return now.rounds;
            case 6:
                return now.talking;
            case 7:
                return now.hush;
            case 8:
                return home.farOf(now.mile);
            case 9:
                return Math.min(KEPT_TOLD, now.keptCount);
            case 10:
                return marks.count;
            case 11:
                return past.acts;
            case 12:
                return drawn;
            default:
                return NONE;
        }
    }

    public int letter(int kind, int which, int k) {
        if (k < 0 || k >= NAME_LETTERS) {
            return NONE;
        }
        if (kind == 0 && isEar(which)) {
            return letterOf(home.earNames[which], k);
        }
        if (kind == 1 && isPlace(which)) {
            return letterOf(home.placeNames[which], k);
        }
        return NONE;
    }

    public int ear(int ear, int what) {
        if (!isEar(ear)) {
            return NONE;
        }
        switch (what) {
            case 0:
                return now.rows[ear];
            case 1:
                return home.sharps[ear];
            case 2:
                return course.hearsIn(now, ear, now.rows[ear], now.hush) ? 1 : 0;
            default:
                return NONE;
        }
    }

    public int place(int place, int what) {
        if (!isPlace(place)) {
            return NONE;
        }
        switch (what) {
            case 0:
                return home.placeMiles[place];
            case 1:
                return now.talks[place];
            case 2:
                return course.talkingAt(now, place, now.hush);
            default:
                return NONE;
        }
    }

    public int stride() {
        return hasHouse() ? course.paceOf(now, now.hush) : NONE;
    }

    // ---- ahead

    public int later(int n, int what) {
        if (!comes(n, 0, MOST_AHEAD)) {
            return NONE;
        }
        walk.copy(now);
        course.passNights(walk, walk.hush, n, heardAhead);
        switch (what) {
            case 0:
                return walk.mile;
            case 1:
                return walk.rounds;
            case 2:
                return walk.talking;
            default:
                return NONE;
        }
    }

    public int round(int times) {
        if (!hasHouse() || times < 0 || times > MOST_ROUNDS) {
            return NONE;
        }
        int most = Math.min(MOST_AHEAD, LAST_NIGHT - now.night);
        walk.copy(now);
        for (int n = 0; n <= most; n++) {
            if (walk.rounds >= times) {
                return n;
            }
            course.passNights(walk, walk.hush, 1, heardAhead);
        }
        return NONE;
    }

    public int heard(int n) {
        if (n < 0 || n >= MOST_AHEAD || !comes(n + 1, 1, MOST_AHEAD)) {
            return NONE;
        }
        walk.copy(now);
        course.passNights(walk, walk.hush, n + 1, heardAhead);
        return heardAhead[n];
    }

    public int often(int ear, int n) {
        if (!isEar(ear) || !comes(n, 0, MOST_AHEAD)) {
            return NONE;
        }
        walk.copy(now);
        course.passNights(walk, walk.hush, n, heardAhead);
        return timesHeard(ear, n);
    }

    // ---- hushes, seats, silences

    public int quiet(int ear, int n) {
        if (!isEar(ear) || !comes(n, 1, MOST_PLANNED)) {
            return NONE;
        }
        for (int hush = 0; hush <= TOP_DIGIT; hush++) {
            walk.copy(now);
            walk.hush = hush;
            course.passNights(walk, walk.hush, n, heardAhead);
            if (timesHeard(ear, n) > 0) {
                return hush;
            }
        }
        return NONE;
    }

    public int seats(int n, int ear) {
        if (!comes(n, 1, MOST_PLANNED) || (ear != NONE && !isEar(ear))) {
            return NONE;
        }
        Arrays.fill(seating.gains, 0);
        walk.copy(now);
        for (int i = 0; i < n; i++) {
            course.move(walk, walk.hush);
            countGains();
            walk.nextNight();
        }
        seating.settle(home.ears);
        return ear == NONE ? seating.best[0] : seating.rows[ear];
    }

    public int watch(int n) {
        if (!comes(n, 1, MOST_PLANNED)) {
            return NONE;
        }
        walk.copy(now);
        course.passNights(walk, walk.hush, n, heardAhead);
        int chosen = NONE;
        for (int ears = 0; ears < 1 << home.ears; ears++) {
            boolean fewer = chosen == NONE || Integer.bitCount(ears) < Integer.bitCount(chosen);
            if (fewer && hearAll(ears, n)) {
                chosen = ears;
            }
        }
        return chosen;
    }

    public int silence(int n) {
        if (!comes(n, 1, MOST_PLANNED)) {
            return NONE;
        }
        int chosen = NONE;
        for (int places = 0; places < 1 << home.places; places++) {
            boolean fewer = chosen == NONE || Integer.bitCount(places) < Integer.bitCount(chosen);
            if (fewer && isRoundWithout(places, n)) {
                chosen = places;
            }
        }
        return chosen;
    }

    public int odds(int ear) {
        if (!isEar(ear) || now.night >= LAST_NIGHT) {
            return NONE;
        }
        int coughed = 0;
        for (int hush = 0; hush < HUSH_DRAW; hush++) {
            if (hearsNext(ear, hush)) {
                coughed++;
            }
        }
        int still = hearsNext(ear, now.hush) ? HUSH_DRAW : 0;
        return home.cough * coughed + (COUGH_DRAW - home.cough) * still;
    }

    // ---- where it is

    public int mark() {
        boolean told = marks.tellsMarks(tape, home.ears);
        if (told) {
            marks.take(tape);
        }
        tape.length = 0;
        return told ? marks.count : refuseNumber(OF_OTHERS);
    }

    public int miles(int k) {
        if (!hasHouse() || k < NONE) {
            return NONE;
        }
        int n = Math.min(marks.nightsMarked(), LAST_NIGHT - now.night);
        int found = 0;
        for (int mile = 0; mile < home.roundMiles; mile++) {
            if (canBeAt(mile, n)) {
                if (found == k) {
                    return mile;
                }
                found++;
            }
        }
        return k == NONE ? found : NONE;
    }

    public int tells(int what) {
        int n = Math.min(MARK_NIGHTS, LAST_NIGHT - now.night);
        if (!hasHouse() || home.ears == 0 || n < 1 || what < 0 || what > 2) {
            return NONE;
        }
        Arrays.fill(tally, 0);
        int left = 0;
        for (int mile = 0; mile < home.roundMiles; mile++) {
            if (canBeAt(mile, n)) {
                left++;
                addToTally(n);
            }
        }
        if (left == 0) {
            return NONE;
        }
        int telling = mostTelling(left, n);
        if (what == 2) {
            return Math.max(tally[telling], left - tally[telling]);
        }
        return what == 0 ? telling / MOST_EARS : telling % MOST_EARS;
    }

    // ---- acts

    public int nights(int n) {
        if (!comes(n, 1, MOST_AHEAD)) {
            return refuseNumber(OF_NIGHTS);
        }
        past.remember(now);
        int times = 0;
        for (int i = 0; i < n; i++) {
            if (live(now.hush)) {
                times++;
            }
        }
        return times;
    }

    public int chance(int n) {
        if (!comes(n, 1, MOST_AHEAD)) {
            return refuseNumber(OF_NIGHTS);
        }
        past.remember(now);
        int coughs = 0;
        for (int i = 0; i < n; i++) {
            int hush = now.hush;
            if (draw(COUGH_DRAW) < home.cough) {
                hush = draw(HUSH_DRAW);
                coughs++;
            }
            live(hush);
        }
        return coughs;
    }

    public boolean hush(int hush) {
        if (!hasHouse() || !isDigit(hush) || hush == now.hush) {
            return refuse(OF_CHANGES);
        }
        past.remember(now);
        now.hush = hush;
        return true;
    }

    public boolean sit(int ear, int row) {
        if (!isEar(ear) || !isDigit(row) || row == now.rows[ear]) {
            return refuse(OF_CHANGES);
        }
        past.remember(now);
        now.rows[ear] = row;
        return true;
    }

    public boolean please(int place, int talk) {
        if (!isPlace(place) || !isDigit(talk) || talk == now.talks[place]) {
            return refuse(OF_CHANGES);
        }
        past.remember(now);
        now.talks[place] = talk;
        return true;
    }

    public boolean undo() {
        if (past.acts == 0) {
            return refuse(OF_UNDO);
        }
        past.bringBack(now);
        return true;
    }

    public boolean seed(int seed) {
        if (seed < 0) {
            return refuse(OF_OTHERS);
        }
        drawn = seed;
        return true;
    }

    public int kept(int k, int what) {
        int told = Math.min(KEPT_TOLD, now.keptCount);
        if (k < 0 || k >= told) {
            return NONE;
        }
        int row = past.keptRow(now.keptCount - told + k);
        switch (what) {
            case 0:
                return row >> KEPT_NIGHT;
            case 1:
                return row >> KEPT_MILE & 255;
            case 2:
                return row & 127;
            default:
                return NONE;
        }
    }

    // ---- images, refusals

    public int image() {
        picture.write(now, home.ears, home.places);
        return picture.length;
    }

    public int octet(int k) {
        return k < 0 || k >= picture.length ? NONE : picture.bytes[k];
    }

    public boolean on() {
        boolean read = hasHouse() && Image.isRead(tape, walk, home);
        tape.length = 0;
        if (!read) {
            return refuse(OF_OTHERS);
        }
        now.copy(walk);
        past.acts = 0;
        return true;
    }

    public int status(int what) {
        return what < 0 || what >= REFUSALS ? NONE : refused[what];
    }

    private boolean refuse(int kind) {
        refused[kind]++;
        return false;
    }

    private int refuseNumber(int kind) {
        refused[kind]++;
        return NONE;
    }

    private boolean hasHouse() {
        return home.roundMiles > 0;
    }

    private boolean isEar(int ear) {
        return ear >= 0 && ear < home.ears;
    }

    private boolean isPlace(int place) {
        return place >= 0 && place < home.places;
    }

    private static boolean isDigit(int number) {
        return number >= 0 && number <= TOP_DIGIT;
    }

    private static int letterOf(int name, int k) {
        int rest = name;
        for (int i = k + 1; i < NAME_LETTERS; i++) {
            rest /= NAME_BASE;
        }
        return rest % NAME_BASE;
    }

    private boolean comes(int n, int least, int most) {
        return hasHouse() && n >= least && n <= most && n <= LAST_NIGHT - now.night;
    }

    private int timesHeard(int ear, int n) {
        int times = 0;
        for (int i = 0; i < n && i < heardAhead.length; i++) {
            times += heardAhead[i] >> ear & 1;
        }
        return times;
    }

    private void countGains() {
        for (int ear = 0; ear < home.ears; ear++) {
            for (int row = 0; row < SEAT_ROWS; row++) {
                if (course.hearsIn(walk, ear, row, walk.hush)) {
                    seating.gains[ear * SEAT_ROWS + row]++;
                }
            }
        }
    }

    private boolean hearAll(int ears, int n) {
        for (int i = 0; i < n && i < heardAhead.length; i++) {
            if (heardAhead[i] != 0 && (heardAhead[i] & ears) == 0) {
                return false;
            }
        }
        return true;
    }

    private boolean isRoundWithout(int places, int n) {
        walk.copy(now);
        for (int place = 0; place < home.places; place++) {
            if ((places >> place & 1) == 1) {
                walk.talks[place] = 0;
            }
        }
        course.passNights(walk, walk.hush, n, heardAhead);
        return walk.rounds > now.rounds;
    }

    private boolean hearsNext(int ear, int hush) {
        walk.copy(now);
        course.move(walk, hush);
        return course.hearsIn(walk, ear, walk.rows[ear], hush);
    }

    private boolean canBeAt(int mile, int n) {
        walk.copy(now);
        walk.mile = mile;
        walk.talking = 0;
        course.passNights(walk, walk.hush, n, heardAhead);
        return marks.areSo(heardAhead, n);
    }

    private void addToTally(int n) {
        for (int i = 0; i < n && i < MARK_NIGHTS; i++) {
            for (int ear = 0; ear < home.ears; ear++) {
                tally[i * MOST_EARS + ear] += heardAhead[i] >> ear & 1;
            }
        }
    }

    private int mostTelling(int left, int n) {
        int telling = 0;
        int fewest = left + 1;
        for (int i = 0; i < n * MOST_EARS && i < tally.length; i++) {
            int most = Math.max(tally[i], left - tally[i]);
            if (i % MOST_EARS < home.ears && most < fewest) {
                fewest = most;
                telling = i;
            }
        }
        return telling;
    }

    private boolean live(int hush) {
        int night = now.night;
        course.passNights(now, hush, 1, heardAhead);
        if (heardAhead[0] == 0) {
            return false;
        }
        past.keep(now.keptCount, night, now.mile, heardAhead[0]);
        now.keptCount++;
        return true;
    }

    private int draw(int m) {
        drawn = (int) ((1103515245L * drawn + 12345L) % 2147483648L);
        return m < 1 ? 0 : drawn / 64 % m;
    }

    /** The bytes that have been fed and not yet used. */
    private static final class Tape {
        private final byte[] bytes = new byte[MOST_BYTES];
        private int length = 0;

        void add(int number) {
            for (int shift = 24; shift >= 0 && length < bytes.length; shift -= 8) {
                bytes[length] = (byte) (number >>> shift);
                length++;
            }
        }

        int at(int k) {
            return k < 0 || k >= length ? NONE : bytes[k] & 255;
        }
    }

    /** A text as a row of pieces (words, numbers, signs), the piece that is looked at, and the first FAULT. */
    private static final class Text {
        private final Tape tape;
        private final int[] kinds;
        private final int[] starts;
        // Of a number itself, of a NAME its six letters as a number, of a BAD piece the byte that is to blame.
        private final int[] values;
        private int count = 0;
        private int current = 0;
        private int fault = 0;
        private int faultAt = NONE;

        Text(Tape tape) {
            this.tape = tape;
            kinds = new int[tape.length + 1];
            starts = new int[tape.length + 1];
            values = new int[tape.length + 1];
        }

        /** Behind a BAD piece nothing is read: no HOUSE goes beyond it. */
        void readPieces() {
            int at = 0;
            for (int turn = 0; turn <= tape.length; turn++) {
                int from = at;
                while (from < tape.length && isBlank(tape.at(from))) {
                    from++;
                }
                at = readPiece(from, from == at);
                if (count == 0 || kinds[count - 1] == END || kinds[count - 1] == BAD) {
                    return;
                }
            }
        }

        private int readPiece(int from, boolean joined) {
            int sign = tape.at(from);
            if (sign == NONE) {
                addPiece(END, from, 0);
                return from;
            }
            boolean word = isLetter(sign);
            if (!word && !isFigure(sign)) {
                addPiece(SIGNS.indexOf((char) sign) < 0 ? BAD : sign, from, from);
                return from + 1;
            }
            int to = from;
            while (to < tape.length && (word ? isLetter(tape.at(to)) : isFigure(tape.at(to)))) {
                to++;
            }
            int most = word ? NAME_LETTERS : NUMBER_DIGITS;
            // The blank that is missing lies ahead of a 7th letter or a 5th digit, so it is looked for first.
            if (joined && endsInWordOrNumber()) {
                addPiece(BAD, from, from);
            } else if (to - from > most) {
                addPiece(BAD, from, from + most);
            } else if (word) {
                addWord(from, to);
            } else {
                addPiece(NUMBER, from, numberOf(from, to));
            }
            return to;
        }

        private void addPiece(int kind, int start, int value) {
            if (count < kinds.length) {
                kinds[count] = kind;
                starts[count] = start;
                values[count] = value;
                count++;
            }
        }

        private void addWord(int from, int to) {
            int own = ownWord(from, to);
            addPiece(own == NONE ? NAME : FIRST_WORD + own, from, nameOf(from, to));
        }

        private boolean endsInWordOrNumber() {
            if (count == 0) {
                return false;
            }
            int last = kinds[count - 1];
            return last == NUMBER || last == NAME || last >= FIRST_WORD;
        }

        private int ownWord(int from, int to) {
            int word = 0;
            int at = from;
            boolean same = true;
            for (int i = 0; i < OWN_WORDS.length(); i++) {
                char letter = OWN_WORDS.charAt(i);
                if (letter != ' ') {
                    same = same && at < to && tape.at(at) == letter;
                    at++;
                } else if (same && at == to) {
                    return word;
                } else {
                    word++;
                    at = from;
                    same = true;
                }
            }
            return NONE;
        }

        private int nameOf(int from, int to) {
            int name = 0;
            for (int i = from; i < from + NAME_LETTERS; i++) {
                name = name * NAME_BASE + (i < to ? tape.at(i) - 'a' + 1 : 0);
            }
            return name;
        }

        private int numberOf(int from, int to) {
            int number = 0;
            for (int i = from; i < to; i++) {
                number = number * 10 + tape.at(i) - '0';
            }
            return number;
        }

        private static boolean isBlank(int sign) {
            return sign == 10 || sign == 32;
        }

        private static boolean isLetter(int sign) {
            return sign >= 'a' && sign <= 'z';
        }

        private static boolean isFigure(int sign) {
            return sign >= '0' && sign <= '9';
        }

        /** With a FAULT every piece is BAD, so that all who read come to their end. */
        int piece() {
            return fault != 0 || current >= count ? BAD : kinds[current];
        }

        int value() {
            return current >= count ? 0 : values[current];
        }

        void next() {
            if (current < count - 1) {
                current++;
            }
        }

        void take(int wanted) {
            if (piece() == wanted) {
                next();
            } else {
                wrong();
            }
        }

        void wrong() {
            if (fault == 0 && current < count) {
                fault = FAULT_BYTE;
                faultAt = kinds[current] == BAD ? values[current] : starts[current];
            }
        }

        void fail(int kind) {
            if (fault == 0 && current < count) {
                fault = kind;
                faultAt = starts[current];
            }
        }
    }

    /** Reads a SUM or a TEST as code: numbers, variables and operators, each behind what it works on. */
    private static final class FormulaReader {
        private final Text text;
        private final int[] code;
        private int used = 0;
        private int open = 0;
        private int subject = GOES;

        FormulaReader(Text text) {
            this.text = text;
            code = new int[text.kinds.length];
        }

        int[] readFormula(int whose) {
            subject = whose;
            used = 0;
            open = 0;
            if (whose == HEARS) {
                readTest();
            } else {
                readSum();
            }
            return Arrays.copyOf(code, used);
        }

        private void readTest() {
            readBoth();
            for (int turn = 0; turn < MOST_BYTES && text.piece() == OR; turn++) {
                text.next();
                readBoth();
                emit(OPERATOR + OR);
            }
        }

        private void readBoth() {
            readFact();
            for (int turn = 0; turn < MOST_BYTES && text.piece() == AND; turn++) {
                text.next();
                readFact();
                emit(OPERATOR + AND);
            }
        }

        private void readFact() {
            switch (text.piece()) {
                case NOT:
                    enter();
                    readFact();
                    open--;
                    emit(OPERATOR + NOT);
                    break;
                case '[':
                    enter();
                    readTest();
                    text.take(']');
                    open--;
                    break;
                case ALL:
                    text.next();
                    emit(1);
                    break;
                default:
                    readSum();
                    readComparison();
                    break;
            }
        }

        private void readComparison() {
            int sign = text.piece();
            if (sign != '<' && sign != '>' && sign != '=') {
                text.wrong();
                return;
            }
            text.next();
            readSum();
            emit(OPERATOR + sign);
        }

        private void readSum() {
            readProduct();
            int sign = text.piece();
            for (int turn = 0; turn < MOST_BYTES && (sign == '+' || sign == '-'); turn++) {
                text.next();
                readProduct();
                emit(OPERATOR + sign);
                sign = text.piece();
            }
        }

        private void readProduct() {
            readPart();
            int sign = text.piece();
            for (int turn = 0; turn < MOST_BYTES && (sign == '*' || sign == '/' || sign == '%'); turn++) {
                text.next();
                readPart();
                emit(OPERATOR + sign);
                sign = text.piece();
            }
        }

        private void readPart() {
            int piece = text.piece();
            switch (piece) {
                case NUMBER:
                    emit(text.value());
                    text.next();
                    break;
                case '(':
                    enter();
                    readSum();
                    text.take(')');
                    open--;
                    break;
                case MIN:
                case MAX:
                case IF:
                    readCall(piece);
                    break;
                default:
                    readVariable(piece);
                    break;
            }
        }

        private void readCall(int word) {
            text.next();
            if (text.piece() != '(') {
                text.wrong();
                return;
            }
            enter();
            if (word == IF) {
                readTest();
                text.take(',');
            }
            readSum();
            text.take(',');
            readSum();
            text.take(')');
            open--;
            emit(OPERATOR + word);
        }

        private void readVariable(int word) {
            if (isVariable(word)) {
                emit(VARIABLE + word);
                text.next();
            } else {
                text.wrong();
            }
        }

        private boolean isVariable(int word) {
            switch (word) {
                case NIGHT:
                case HUSH:
                    return true;
                case MILE:
                case ROUNDS:
                    return subject == GOES;
                case SHARP:
                case ROW:
                case FAR:
                    return subject == HEARS;
                case TALK:
                    return subject == TALKS;
                default:
                    return false;
            }
        }

        private void enter() {
            if (open >= MOST_OPEN) {
                text.fail(FAULT_OPEN);
            }
            open++;
            text.next();
        }

        private void emit(int what) {
            if (used < code.length) {
                code[used] = what;
                used++;
            }
        }
    }

    /** Reads the STATEMENTS of a text into a new House. */
    private static final class HouseReader {
        private final Text text;
        private final FormulaReader formulas;
        private final House made = new House();

        HouseReader(Text text) {
            this.text = text;
            formulas = new FormulaReader(text);
        }

        House readHouse() {
            text.take(ROUND);
            made.roundMiles = readNumber(LEAST_MILES, MOST_MILES);
            text.take(';');
            made.statements = 1;
            for (int turn = 0; turn < MOST_STATEMENTS && text.fault == 0 && text.piece() != END; turn++) {
                readStatement();
                made.statements++;
            }
            return made;
        }

        private void readStatement() {
            if (made.statements >= MOST_STATEMENTS) {
                text.fail(FAULT_COUNT);
                return;
            }
            int word = text.piece();
            switch (word) {
                case VOICE:
                case HUSH:
                case COUGH:
                    readSetting(word);
                    break;
                case EAR:
                    readEar();
                    break;
                case PLACE:
                    readPlace();
                    break;
                case GOES:
                case HEARS:
                case TALKS:
                    if (made.ruled(word)) {
                        text.fail(FAULT_COUNT);
                    }
                    text.next();
                    made.rule(word, formulas.readFormula(word));
                    break;
                default:
                    text.wrong();
                    break;
            }
            text.take(';');
        }

        private void readSetting(int word) {
            text.next();
            if (word == VOICE) {
                made.firstMile = readNumber(0, made.roundMiles - 1);
            } else if (word == HUSH) {
                made.firstHush = readNumber(0, TOP_DIGIT);
            } else {
                made.cough = readNumber(0, COUGH_DRAW);
            }
        }

        private void readEar() {
            if (made.ears >= MOST_EARS) {
                text.fail(FAULT_COUNT);
                return;
            }
            text.next();
            made.earNames[made.ears] = readNewName();
            text.take(ROW);
            made.rows[made.ears] = readNumber(0, TOP_DIGIT);
            text.take(SHARP);
            made.sharps[made.ears] = readNumber(0, TOP_DIGIT);
            made.ears++;
        }

        private void readPlace() {
            if (made.places >= MOST_PLACES) {
                text.fail(FAULT_COUNT);
                return;
            }
            text.next();
            made.placeNames[made.places] = readNewName();
            text.take(AT);
            if (text.piece() == NUMBER && made.hasPlaceAt(text.value())) {
                text.fail(FAULT_NUMBER);
            }
            made.placeMiles[made.places] = readNumber(1, made.roundMiles - 1);
            text.take(TALK);
            made.talks[made.places] = readNumber(0, TOP_DIGIT);
            made.places++;
        }

        private int readNewName() {
            int name = text.value();
            if (text.piece() != NAME) {
                text.wrong();
            } else if (made.hasName(name)) {
                text.fail(FAULT_NAME);
            }
            text.next();
            return name;
        }

        private int readNumber(int least, int most) {
            int number = text.value();
            if (text.piece() != NUMBER) {
                text.wrong();
            } else if (number < least || number > most) {
                text.fail(FAULT_NUMBER);
            }
            text.next();
            return number;
        }
    }

    /** What a text tells of a house; without one all is 0. */
    private static final class House {
        private int statements = 0;
        private int roundMiles = 0;
        private int firstMile = 0;
        private int firstHush = 0;
        private int cough = 0;
        private int ears = 0;
        private int places = 0;
        private final int[] earNames = new int[MOST_EARS];
        private final int[] rows = new int[MOST_EARS];
        private final int[] sharps = new int[MOST_EARS];
        private final int[] placeNames = new int[MOST_PLACES];
        private final int[] placeMiles = new int[MOST_PLACES];
        private final int[] talks = new int[MOST_PLACES];
        // What holds without goes, hears, talks: 1, far is 9 at most, talk.
        private int[] goes = {1};
        private int[] hears = {VARIABLE + FAR, FAR_WITHOUT_TEST, OPERATOR + '<'};
        private int[] talkFor = {VARIABLE + TALK};
        private boolean goesTold = false;
        private boolean hearsTold = false;
        private boolean talksTold = false;

        boolean ruled(int word) {
            return word == GOES ? goesTold : word == HEARS ? hearsTold : talksTold;
        }

        void rule(int word, int[] code) {
            if (word == GOES) {
                goes = code;
                goesTold = true;
            } else if (word == HEARS) {
                hears = code;
                hearsTold = true;
            } else {
                talkFor = code;
                talksTold = true;
            }
        }

        boolean hasName(int name) {
            for (int i = 0; i < ears; i++) {
                if (earNames[i] == name) {
                    return true;
                }
            }
            for (int i = 0; i < places; i++) {
                if (placeNames[i] == name) {
                    return true;
                }
            }
            return false;
        }

        boolean hasPlaceAt(int mile) {
            for (int i = 0; i < places; i++) {
                if (placeMiles[i] == mile) {
                    return true;
                }
            }
            return false;
        }

        int farOf(int mile) {
            return Math.min(mile, roundMiles - mile);
        }
    }

    /** All that NIGHTS and other ACTS change. */
    private static final class Moment {
        private int night = 0;
        private int mile = 0;
        private int rounds = 0;
        private int talking = 0;
        private int hush = 0;
        private int keptCount = 0;
        private final int[] rows = new int[MOST_EARS];
        private final int[] talks = new int[MOST_PLACES];

        void begin(House home) {
            night = 0;
            mile = home.firstMile;
            rounds = 0;
            talking = 0;
            hush = home.firstHush;
            keptCount = 0;
            System.arraycopy(home.rows, 0, rows, 0, MOST_EARS);
            System.arraycopy(home.talks, 0, talks, 0, MOST_PLACES);
        }

        void copy(Moment other) {
            night = other.night;
            mile = other.mile;
            rounds = other.rounds;
            talking = other.talking;
            hush = other.hush;
            keptCount = other.keptCount;
            System.arraycopy(other.rows, 0, rows, 0, MOST_EARS);
            System.arraycopy(other.talks, 0, talks, 0, MOST_PLACES);
        }

        void nextNight() {
            night = Math.min(LAST_NIGHT, night + 1);
        }
    }

    /** How a NIGHT goes by in a house. */
    private static final class Course {
        private House home;
        private final int[] values = new int[OWN_WORD_COUNT];
        private final int[] stack = new int[STACK_ROOM];

        Course(House home) {
            this.home = home;
        }

        /** n NIGHTS with that hush go by; heard takes the EARS by which the voice is HEARD in each, as bits. */
        void passNights(Moment voice, int hush, int n, int[] heard) {
            for (int i = 0; i < n && i < heard.length; i++) {
                move(voice, hush);
                heard[i] = earsHearing(voice, hush);
                voice.nextNight();
            }
        }

        private int earsHearing(Moment voice, int hush) {
            int ears = 0;
            for (int ear = 0; ear < home.ears; ear++) {
                if (hearsIn(voice, ear, voice.rows[ear], hush)) {
                    ears |= 1 << ear;
                }
            }
            return ears;
        }

        void move(Moment voice, int hush) {
            if (voice.talking > 0) {
                voice.talking--;
                return;
            }
            int steps = paceOf(voice, hush);
            int stop = NONE;
            for (int place = 0; place < home.places; place++) {
                int way = wayTo(home.placeMiles[place], voice.mile);
                if (way <= steps) {
                    steps = way;
                    stop = place;
                }
            }
            goOn(voice, steps);
            if (stop != NONE) {
                voice.talking = talkingAt(voice, stop, hush);
            }
        }

        /** A PLACE where the voice is already is a whole round away. */
        private int wayTo(int placeMile, int mile) {
            int way = placeMile - mile;
            return way > 0 ? way : way + home.roundMiles;
        }

        private void goOn(Moment voice, int steps) {
            voice.mile += steps;
            for (int turn = 0; turn <= MOST_STRIDE && voice.mile >= home.roundMiles; turn++) {
                voice.mile -= home.roundMiles;
                voice.rounds = Math.min(MOST_ROUNDS, voice.rounds + 1);
            }
        }

        int paceOf(Moment voice, int hush) {
            set(NIGHT, voice.night);
            set(HUSH, hush);
            set(MILE, voice.mile);
            set(ROUNDS, voice.rounds);
            return Math.max(0, Math.min(MOST_STRIDE, resultOf(home.goes)));
        }

        int talkingAt(Moment voice, int place, int hush) {
            set(NIGHT, voice.night);
            set(HUSH, hush);
            set(TALK, voice.talks[place]);
            return Math.max(0, Math.min(MOST_TALKING, resultOf(home.talkFor)));
        }

        boolean hearsIn(Moment voice, int ear, int row, int hush) {
            set(NIGHT, voice.night);
            set(HUSH, hush);
            set(SHARP, home.sharps[ear]);
            set(ROW, row);
            set(FAR, home.farOf(voice.mile));
            return resultOf(home.hears) != 0;
        }

        private void set(int word, int value) {
            values[word - FIRST_WORD] = value;
        }

        private int valueOf(int what) {
            int word = what - VARIABLE - FIRST_WORD;
            return word >= 0 && word < values.length ? values[word] : what;
        }

        private int resultOf(int[] code) {
            int top = 0;
            for (int i = 0; i < code.length; i++) {
                int what = code[i] - OPERATOR;
                if (what < 0 && top < stack.length) {
                    stack[top] = valueOf(code[i]);
                    top++;
                } else if (what == NOT && top >= 1) {
                    stack[top - 1] = 1 - stack[top - 1];
                } else if (what == IF && top >= 3) {
                    top -= 2;
                    stack[top - 1] = stack[top - 1] != 0 ? stack[top] : stack[top + 1];
                } else if (what > 0 && top >= 2) {
                    top--;
                    long result = operate(what, stack[top - 1], stack[top]);
                    stack[top - 1] = (int) Math.max(-MOST_RESULT, Math.min(MOST_RESULT, result));
                }
            }
            return stack[0];
        }

        private static long operate(int sign, long a, long b) {
            switch (sign) {
                case '+':
                    return a + b;
                case '-':
                    return a - b;
                case '*':
                    return a * b;
                case '/':
                    return b == 0 ? 0 : Math.floorDiv(a, b);
                case '%':
                    return b == 0 ? 0 : Math.floorMod(a, b);
                case '<':
                    return a < b ? 1 : 0;
                case '>':
                    return a > b ? 1 : 0;
                case '=':
                    return a == b ? 1 : 0;
                case AND:
                case MIN:
                    return Math.min(a, b);
                default:
                    return Math.max(a, b);
            }
        }
    }

    /** The moments ahead of the last ACTS, and all that is KEPT. */
    private static final class Past {
        private final Moment[] moments = new Moment[ACTS_UNDONE];
        private int newest = 0;
        private int acts = 0;
        // More rows than are told: undo() may bring the older ones back.
        private final int[] keptRows = new int[LAST_NIGHT];

        Past() {
            for (int i = 0; i < ACTS_UNDONE; i++) {
                moments[i] = new Moment();
            }
        }

        void remember(Moment moment) {
            newest = (newest + 1) % ACTS_UNDONE;
            moments[newest].copy(moment);
            acts = Math.min(ACTS_UNDONE, acts + 1);
        }

        void bringBack(Moment moment) {
            moment.copy(moments[newest]);
            newest = (newest + ACTS_UNDONE - 1) % ACTS_UNDONE;
            acts--;
        }

        void keep(int which, int night, int mile, int ears) {
            if (which >= 0 && which < keptRows.length) {
                keptRows[which] = night << KEPT_NIGHT | mile << KEPT_MILE | ears;
            }
        }

        int keptRow(int which) {
            return which < 0 || which >= keptRows.length ? 0 : keptRows[which];
        }
    }

    /** The rows that are MARKED: a NIGHT AHEAD, an EAR, whether it hears. */
    private static final class Marks {
        private int count = 0;
        private final int[] nightsAhead = new int[MOST_MARKS];
        private final int[] ears = new int[MOST_MARKS];
        private final int[] hearing = new int[MOST_MARKS];

        boolean tellsMarks(Tape tape, int earCount) {
            int rows = tape.length / MARK_BYTES;
            if (tape.length % MARK_BYTES != 0 || rows < 1 || rows > MOST_MARKS) {
                return false;
            }
            for (int i = 0; i < rows; i++) {
                int from = i * MARK_BYTES;
                if (tape.at(from) >= MARK_NIGHTS || tape.at(from + 1) >= earCount || tape.at(from + 2) > 1) {
                    return false;
                }
            }
            return true;
        }

        void take(Tape tape) {
            count = Math.min(MOST_MARKS, tape.length / MARK_BYTES);
            for (int i = 0; i < count; i++) {
                nightsAhead[i] = tape.at(i * MARK_BYTES);
                ears[i] = tape.at(i * MARK_BYTES + 1);
                hearing[i] = tape.at(i * MARK_BYTES + 2);
            }
        }

        int nightsMarked() {
            int most = 0;
            for (int i = 0; i < count; i++) {
                most = Math.max(most, nightsAhead[i] + 1);
            }
            return most;
        }

        /** A row is not so if its NIGHT is none of the n that come. */
        boolean areSo(int[] heardAhead, int n) {
            for (int i = 0; i < count; i++) {
                int night = nightsAhead[i];
                if (night >= n || night >= heardAhead.length || (heardAhead[night] >> ears[i] & 1) != hearing[i]) {
                    return false;
                }
            }
            return true;
        }
    }

    /** Which row for which EAR: best has, for each set of rows that the first EARS took, what the others gain. */
    private static final class Seating {
        private final int[] gains = new int[MOST_EARS * SEAT_ROWS];
        private final int[] best = new int[1 << SEAT_ROWS];
        private final int[] rows = new int[MOST_EARS];

        void settle(int ears) {
            for (int taken = best.length - 1; taken >= 0; taken--) {
                int ear = Integer.bitCount(taken);
                int row = ear < ears ? bestRow(ear, taken) : NONE;
                best[taken] = row == NONE ? 0 : gainOf(ear, row, taken);
            }
            int taken = 0;
            for (int ear = 0; ear < ears; ear++) {
                rows[ear] = Math.max(0, bestRow(ear, taken));
                taken |= 1 << rows[ear];
            }
        }

        private int bestRow(int ear, int taken) {
            int chosen = NONE;
            for (int row = 0; row < SEAT_ROWS; row++) {
                boolean free = (taken >> row & 1) == 0;
                if (free && (chosen == NONE || gainOf(ear, row, taken) > gainOf(ear, chosen, taken))) {
                    chosen = row;
                }
            }
            return chosen;
        }

        private int gainOf(int ear, int row, int taken) {
            return gains[ear * SEAT_ROWS + row] + best[taken | 1 << row];
        }
    }

    /** The bytes of the latest image. */
    private static final class Image {
        private final int[] bytes = new int[IMAGE_HEAD + MOST_EARS + MOST_PLACES + 1];
        private int length = 0;

        void write(Moment voice, int ears, int places) {
            length = 0;
            addTwo(voice.night);
            addTwo(voice.mile);
            addTwo(voice.rounds);
            add(voice.talking);
            add(voice.hush);
            for (int ear = 0; ear < ears; ear++) {
                add(voice.rows[ear]);
            }
            for (int place = 0; place < places; place++) {
                add(voice.talks[place]);
            }
            int check = CHECK_START;
            for (int i = 0; i < length; i++) {
                check = checkOn(check, bytes[i]);
            }
            add(check);
        }

        private void addTwo(int number) {
            add(number >> 8);
            add(number & 255);
        }

        private void add(int octet) {
            if (length < bytes.length) {
                bytes[length] = octet;
                length++;
            }
        }

        private static int checkOn(int check, int octet) {
            return (5 * check + octet) % 251;
        }

        /** Whether the tape is an image of that house; what it tells is then in the moment. */
        static boolean isRead(Tape tape, Moment into, House home) {
            int last = IMAGE_HEAD + home.ears + home.places;
            if (tape.length != last + 1) {
                return false;
            }
            int check = CHECK_START;
            for (int i = 0; i < last; i++) {
                check = checkOn(check, tape.at(i));
            }
            into.night = twoAt(tape, 0);
            into.mile = twoAt(tape, 2);
            into.rounds = twoAt(tape, 4);
            into.talking = tape.at(6);
            into.hush = tape.at(7);
            into.keptCount = 0;
            boolean digits = isDigit(into.hush);
            for (int ear = 0; ear < home.ears; ear++) {
                into.rows[ear] = tape.at(IMAGE_HEAD + ear);
                digits = digits && isDigit(into.rows[ear]);
            }
            for (int place = 0; place < home.places; place++) {
                into.talks[place] = tape.at(IMAGE_HEAD + home.ears + place);
                digits = digits && isDigit(into.talks[place]);
            }
            return check == tape.at(last) && digits && into.night <= LAST_NIGHT && into.mile < home.roundMiles
                    && into.rounds <= MOST_ROUNDS && into.talking <= MOST_TALKING;
        }

        private static int twoAt(Tape tape, int k) {
            return tape.at(k) << 8 | tape.at(k + 1);
        }
    }
}
