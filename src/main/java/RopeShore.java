/**
 * A shore where every swimmer is roped to the opinion that is held of him. The document DOC.md
 * says what each call answers; words in capitals here are its words.
 */
public final class RopeShore {
    private static final int LOW = -1000000000;
    private static final int BEYOND = 1;
    private static final int NONE = 2;
    private static final int STATE = 3;
    private static final int FULL = 4;
    private static final int KIND = 5;
    private static final int PARTED = 6;

    private static final int PEOPLE_MOST = 8;
    private static final int KINDS = 7;
    private static final int OUT_MOST = 500;
    private static final int SAID_MOST = 99;
    private static final int SEA_MOST = 9;
    private static final int SEA_TAKES = 5;
    private static final int DAY_MOST = 9999;
    private static final int DAYS_MOST = 60;
    private static final int DRAWN_DAYS_MOST = 30;
    private static final int SPOKEN_MORE = 10;
    private static final int TAPE_MOST = 60;
    private static final int WORD_BYTES = 8;
    private static final int USES = 2;
    private static final int ROPE = 0;
    private static final int CHANGE = 1;
    private static final int SHEETS = 4;
    private static final int SHEET_MOST = 24;
    private static final int WAITING_MOST = 24;
    private static final int TRACE_MOST = 30;

    /** The KIND right above each KIND; nothing stands above PERSON. */
    private static final int[] ABOVE = {-1, 0, 0, 0, 1, 2, 0};

    private final Shore now = new Shore();
    private final Shore thought = new Shore();
    private final Shore kept = new Shore();
    private final Sheet[] sheets = {new Sheet(), new Sheet(), new Sheet(), new Sheet()};
    private final int[] errors = new int[PARTED + 1];
    private final int[] hands = new int[PEOPLE_MOST];
    private final int[] ropes = new int[PEOPLE_MOST * PEOPLE_MOST];
    private final Text read = new Text();
    private final Voice latest = new Voice();
    private int images = 0;

    public RopeShore() {
    }

    // ---- people, ropes

    public int person(int km) {
        if (!isKindAndNumber(km)) {
            return error(BEYOND);
        }
        if (now.count >= PEOPLE_MOST) {
            return error(FULL);
        }
        int added = now.count;
        now.setKind(added, km);
        now.count = added + 1;
        return added;
    }

    public int personIs(int person, int what) {
        if (!now.has(person) || !within(what, 0, 4)) {
            return error(BEYOND);
        }
        switch (what) {
            case 0:
                return now.kind[person];
            case 1:
                return now.m[person];
            case 2:
                return now.out[person];
            case 3:
                return now.lost[person] ? 1 : 0;
            default:
                return now.ropeOf(person);
        }
    }

    public int become(int person, int km) {
        if (!now.has(person) || !isKindAndNumber(km)) {
            return error(BEYOND);
        }
        int was = now.kind[person];
        now.setKind(person, km);
        return was;
    }

    public int as(int person, int kind) {
        if (!now.has(person) || !within(kind, 0, KINDS - 1)) {
            return error(BEYOND);
        }
        if (!isUnder(now.kind[person], kind)) {
            return error(KIND);
        }
        return now.m[person];
    }

    public int tells(int person, int of, int v) {
        if (!arePair(person, of) || !within(v, 0, SAID_MOST)) {
            return error(BEYOND);
        }
        int was = now.said(person, of);
        now.say(person, of, v);
        return was;
    }

    public int rope(int person, int of) {
        if (!arePair(person, of)) {
            return error(BEYOND);
        }
        return now.ropeBy(person, of, now.said(person, of));
    }

    public int swim(int person, int far) {
        if (!now.has(person) || !within(far, 0, OUT_MOST)) {
            return error(BEYOND);
        }
        if (now.lost[person]) {
            return error(STATE);
        }
        int was = now.out[person];
        now.out[person] = far;
        return was;
    }

    public int saves(int person) {
        if (!now.has(person)) {
            return error(BEYOND);
        }
        int was = now.lost[person] ? 1 : 0;
        now.lost[person] = false;
        now.out[person] = 0;
        return was;
    }

    public int weather(int v) {
        if (!within(v, 0, SEA_MOST)) {
            return error(BEYOND);
        }
        int was = now.sea;
        now.sea = v;
        return was;
    }

    // ---- texts

    public int feed(long word, int n) {
        if (!within(n, 1, WORD_BYTES)) {
            return error(BEYOND);
        }
        if (n > TAPE_MOST - now.fed) {
            return error(FULL);
        }
        for (int i = 0; i < n; i++) {
            now.tape[now.fed + i] = (byte) (word >>> (8 * i));
        }
        now.fed = now.fed + n;
        return now.fed;
    }

    public int text(int use) {
        if (!isUse(use)) {
            return error(BEYOND);
        }
        boolean whole = read.reads(now.tape, now.fed, use);
        now.fed = 0;
        if (!whole) {
            return -10 - read.place();
        }
        now.texts[use].copy(read);
        return 1;
    }

    public int untell(int use) {
        if (!isUse(use)) {
            return error(BEYOND);
        }
        int was = now.texts[use].isThere() ? 1 : 0;
        now.texts[use].forget();
        return was;
    }

    public int law(int use, int a, int b, int c) {
        if (!isUse(use)) {
            return error(BEYOND);
        }
        return now.lawGives(use, a, b, c);
    }

    // ---- days

    public int days(int n) {
        if (!within(n, 1, DAYS_MOST)) {
            return error(BEYOND);
        }
        if (now.day + n > DAY_MOST) {
            return error(STATE);
        }
        int gone = 0;
        for (int d = 0; d < n; d++) {
            gone += now.dayGoesBy();
        }
        return gone;
    }

    public int loose(int n) {
        if (!within(n, 1, DRAWN_DAYS_MOST)) {
            return error(BEYOND);
        }
        if (now.day + n > DAY_MOST) {
            return error(STATE);
        }
        int gone = 0;
        for (int d = 0; d < n; d++) {
            now.drawSeaAndSwimmer();
            gone += now.dayGoesBy();
        }
        return gone;
    }

    public int seed(int v) {
        int was = now.z;
        now.z = v;
        return was;
    }

    // ---- what is, what would be

    public int then(int person, int n, int what) {
        if (!now.has(person) || !within(n, 0, DAYS_MOST) || !within(what, 0, 1)) {
            return error(BEYOND);
        }
        thought.copy(now);
        for (int d = 0; d < n; d++) {
            thought.dayGoesBy();
        }
        if (what == 0) {
            return thought.ropeOf(person);
        }
        return thought.lost[person] ? 1 : 0;
    }

    public int cuts(int person, int far, int what) {
        if (!now.has(person) || !within(far, 1, OUT_MOST) || !within(what, 0, 1)) {
            return error(BEYOND);
        }
        // What is left is below far as soon as those who are cut held all but far - 1 of it.
        int set = fewestHolding(handsOn(person) - far + 1);
        return what == 0 ? Integer.bitCount(set) : set;
    }

    public int hauls(int person, int far, int what) {
        if (!now.has(person) || !within(far, 1, OUT_MOST) || !within(what, 0, 1)) {
            return error(BEYOND);
        }
        if (handsOn(person) < far) {
            return error(NONE);
        }
        int set = fewestHolding(far);
        return what == 0 ? Integer.bitCount(set) : set;
    }

    public int party(int far, int what) {
        if (!within(far, 1, OUT_MOST) || !within(what, 0, 1)) {
            return error(BEYOND);
        }
        readRopes();
        int need = far + SEA_TAKES * now.sea;
        int best = 0;
        for (int set = 1; set < (1 << now.count); set++) {
            if (Integer.bitCount(set) > Integer.bitCount(best) && canBeOut(set, need)) {
                best = set;
            }
        }
        return what == 0 ? Integer.bitCount(best) : best;
    }

    public int speaks(int person, int what) {
        if (!now.has(person) || !within(what, 0, 1)) {
            return error(BEYOND);
        }
        int who = -1;
        int most = 0;
        for (int i = 0; i < now.count; i++) {
            if (i != person && now.isAshore(i)) {
                int gain = gainIfSpoken(i, person);
                if (who < 0 || gain > most) {
                    who = i;
                    most = gain;
                }
            }
        }
        if (who < 0) {
            return error(NONE);
        }
        return what == 0 ? who : most;
    }

    public int odds(int person, int far, int part) {
        if (!now.has(person) || !within(far, 0, OUT_MOST) || !within(part, 0, 1)) {
            return error(BEYOND);
        }
        thought.copy(now);
        int reached = 0;
        for (int sea = 0; sea <= SEA_MOST; sea++) {
            thought.sea = sea;
            if (far + SEA_TAKES * sea <= thought.ropeOf(person)) {
                reached++;
            }
        }
        int all = SEA_MOST + 1;
        int shared = greatestDivisor(reached, all);
        return (part == 0 ? reached : all) / shared;
    }

    public int fits(int sheet) {
        if (!isSheet(sheet)) {
            return error(BEYOND);
        }
        Sheet asked = sheets[sheet];
        if (asked.isMissing()) {
            return error(NONE);
        }
        thought.copy(now);
        for (int d = 0; d <= DAYS_MOST; d++) {
            if (rightRopes(thought, asked) == asked.size) {
                return d;
            }
            thought.dayGoesBy();
        }
        return error(NONE);
    }

    // ---- voices, sheets, images, what is told

    public int voice(int person, int voice, int x) {
        if (!now.has(person) || !within(voice, 0, 3)) {
            return error(BEYOND);
        }
        // THE TRACE is of the latest voice(): one that is PARTED leaves the BODIES that it began.
        latest.start(person, now.m[person]);
        Person kind = now.kindOf(person);
        int answer;
        switch (voice) {
            case 0:
                answer = kind.say(latest, x);
                break;
            case 1:
                answer = kind.let(latest, x);
                break;
            case 2:
                answer = kind.haul(latest, x);
                break;
            default:
                answer = kind.part(latest, x);
                break;
        }
        return latest.parted ? error(PARTED) : answer;
    }

    public int body(int i) {
        if (!within(i, 0, latest.began - 1)) {
            return error(NONE);
        }
        return latest.bodies[i];
    }

    public int sheet(int sheet, int bits, int n) {
        if (!isSheet(sheet) || !isBits(bits)) {
            return error(BEYOND);
        }
        if (bits == 0) {
            sheets[sheet].renew(0, 0);
            return 1;
        }
        if (n < 0) {
            return error(STATE);
        }
        if (n > SHEET_MOST) {
            return error(BEYOND);
        }
        sheets[sheet].renew(bits, n);
        return 1;
    }

    public int put(int sheet, int i, int v) {
        if (!isSheet(sheet)) {
            return error(BEYOND);
        }
        Sheet asked = sheets[sheet];
        if (asked.isMissing()) {
            return error(NONE);
        }
        if (!within(i, 0, asked.size - 1)) {
            return error(BEYOND);
        }
        asked.set(i, v);
        return 1;
    }

    public int move(int sheet, int i, int other, int j, int n) {
        if (!isSheet(sheet) || !isSheet(other)) {
            return error(BEYOND);
        }
        Sheet from = sheets[sheet];
        Sheet to = sheets[other];
        if (from.isMissing() || to.isMissing()) {
            return error(NONE);
        }
        if (from.bits != to.bits) {
            return error(KIND);
        }
        if (!from.holds(i, n) || !to.holds(j, n)) {
            return error(BEYOND);
        }
        System.arraycopy(from.row, i, to.row, j, n);
        return n;
    }

    public int words(int person, int sheet) {
        if (!now.has(person) || !isSheet(sheet)) {
            return error(BEYOND);
        }
        Sheet asked = sheets[sheet];
        if (asked.isMissing()) {
            return error(NONE);
        }
        int most = Math.min(asked.size, now.count);
        for (int of = 0; of < most; of++) {
            if (of != person) {
                if (!within(asked.row[of], 0, SAID_MOST)) {
                    return of;
                }
                now.say(person, of, asked.row[of]);
            }
        }
        return most;
    }

    public int judge(int sheet) {
        if (!isSheet(sheet)) {
            return error(BEYOND);
        }
        Sheet asked = sheets[sheet];
        if (asked.isMissing()) {
            return error(NONE);
        }
        return rightRopes(now, asked);
    }

    public int image() {
        kept.copy(now);
        images++;
        return images;
    }

    public int restore() {
        if (images == 0) {
            return error(NONE);
        }
        now.copy(kept);
        return now.day;
    }

    public int tell(int v) {
        if (now.waits >= WAITING_MOST) {
            return error(FULL);
        }
        now.waiting[now.waits] = v;
        now.waits = now.waits + 1;
        return now.waits;
    }

    public int check() {
        int waited = now.waits;
        now.waits = 0;
        for (int i = 0; i < waited; i++) {
            if (i >= now.count || now.waiting[i] != now.out[i]) {
                return 1 + i;
            }
        }
        return 0;
    }

    public int count(int what) {
        switch (what) {
            case 0:
                return now.count;
            case 1:
                return now.sea;
            case 2:
                return now.day;
            case 3:
                return now.fed;
            case 4:
                return now.waits;
            case 5:
                return latest.began;
            case 6:
                return now.z;
            default:
                return error(BEYOND);
        }
    }

    public int told(int k) {
        if (!within(k, BEYOND, PARTED)) {
            return error(BEYOND);
        }
        return errors[k];
    }

    // ---- what the calls above ask of their arguments

    /** Counts an ERROR, for told(), and gives its answer. */
    private int error(int k) {
        errors[k]++;
        return LOW - k;
    }

    private static boolean within(int v, int least, int most) {
        return v >= least && v <= most;
    }

    private static int held(int v, int least, int most) {
        return Math.max(least, Math.min(most, v));
    }

    private static boolean isKindAndNumber(int km) {
        return within(km, 0, 10 * KINDS - 1);
    }

    private static boolean isUse(int use) {
        return within(use, 0, USES - 1);
    }

    private static boolean isSheet(int sheet) {
        return within(sheet, 0, SHEETS - 1);
    }

    private static boolean isBits(int bits) {
        return bits == 0 || bits == 8 || bits == 16 || bits == 32;
    }

    private static boolean isUnder(int kind, int above) {
        int k = kind;
        for (int up = 0; up < KINDS && within(k, 0, KINDS - 1); up++) {
            if (k == above) {
                return true;
            }
            k = ABOVE[k];
        }
        return false;
    }

    private boolean arePair(int person, int of) {
        return now.has(person) && now.has(of) && person != of;
    }

    // ---- who holds a rope

    /** Puts down the ROPE that each one ASHORE has for one now (0 for the others): all together. */
    private int handsOn(int person) {
        int all = 0;
        for (int i = 0; i < now.count; i++) {
            boolean holds = i != person && now.isAshore(i);
            hands[i] = holds ? now.ropeBy(i, person, now.said(i, person)) : 0;
            all += hands[i];
        }
        return all;
    }

    /** The fewest whose hands hold so much together, as all hands do; of several sets the least. */
    private int fewestHolding(int need) {
        int best = (1 << now.count) - 1;
        for (int set = 0; set < (1 << now.count); set++) {
            if (Integer.bitCount(set) < Integer.bitCount(best) && holding(set) >= need) {
                best = set;
            }
        }
        return best;
    }

    private int holding(int set) {
        int all = 0;
        for (int i = 0; i < now.count; i++) {
            if ((set & (1 << i)) != 0) {
                all += hands[i];
            }
        }
        return all;
    }

    /** Puts down the ROPE that each would give each other one now, were it ASHORE; 0 by the LOST. */
    private void readRopes() {
        for (int i = 0; i < now.count; i++) {
            for (int of = 0; of < now.count; of++) {
                boolean gives = i != of && !now.lost[i];
                ropes[i * PEOPLE_MOST + of] = gives ? now.ropeBy(i, of, now.said(i, of)) : 0;
            }
        }
    }

    private boolean canBeOut(int set, int need) {
        for (int of = 0; of < now.count; of++) {
            if ((set & (1 << of)) != 0 && (now.lost[of] || ropeFromOutside(set, of) < need)) {
                return false;
            }
        }
        return true;
    }

    private int ropeFromOutside(int set, int of) {
        int all = 0;
        for (int i = 0; i < now.count; i++) {
            if ((set & (1 << i)) == 0) {
                all += ropes[i * PEOPLE_MOST + of];
            }
        }
        return all;
    }

    private int gainIfSpoken(int i, int of) {
        int said = now.said(i, of);
        int more = Math.min(SAID_MOST, said + SPOKEN_MORE);
        return now.ropeBy(i, of, more) - now.ropeBy(i, of, said);
    }

    private static int rightRopes(Shore shore, Sheet told) {
        int most = Math.min(told.size, shore.count);
        for (int of = 0; of < most; of++) {
            if (told.row[of] != shore.ropeOf(of)) {
                return of;
            }
        }
        return most;
    }

    /** By Euclid. It divides, so it is kept from being 0 whatever a and b are. */
    private static int greatestDivisor(int a, int b) {
        int of = b;
        int by = a;
        for (int step = 0; step < 64 && by != 0; step++) {
            int rest = of % by;
            of = by;
            by = rest;
        }
        return of == 0 ? 1 : of;
    }

    /** All that an IMAGE keeps, and all that is only thought of. */
    private static final class Shore {
        private final Person[] kinds = {
            new Person(), new Gossip(), new Mayor(), new Cutter(), new Doctor(), new Judge(), new Widow()
        };
        private final int[] kind = new int[PEOPLE_MOST];
        private final int[] m = new int[PEOPLE_MOST];
        private final int[] out = new int[PEOPLE_MOST];
        private final boolean[] lost = new boolean[PEOPLE_MOST];
        private final int[] talk = new int[PEOPLE_MOST * PEOPLE_MOST];
        private final Text[] texts = {new Text(), new Text()};
        private final byte[] tape = new byte[TAPE_MOST];
        private final int[] waiting = new int[WAITING_MOST];
        private int count = 0;
        private int fed = 0;
        private int waits = 0;
        private int sea = 0;
        private int day = 0;
        private int z = 1;

        /** Rows come over whole: what stands behind the last of PEOPLE is as at first there, too. */
        private void copy(Shore other) {
            for (int i = 0; i < PEOPLE_MOST; i++) {
                kind[i] = other.kind[i];
                m[i] = other.m[i];
                out[i] = other.out[i];
                lost[i] = other.lost[i];
            }
            System.arraycopy(other.talk, 0, talk, 0, talk.length);
            System.arraycopy(other.tape, 0, tape, 0, tape.length);
            System.arraycopy(other.waiting, 0, waiting, 0, waiting.length);
            for (int use = 0; use < USES; use++) {
                texts[use].copy(other.texts[use]);
            }
            count = other.count;
            fed = other.fed;
            waits = other.waits;
            sea = other.sea;
            day = other.day;
            z = other.z;
        }

        private boolean has(int person) {
            return within(person, 0, count - 1);
        }

        private void setKind(int person, int km) {
            kind[person] = km / 10;
            m[person] = km % 10;
        }

        private Person kindOf(int person) {
            int k = kind[person];
            return kinds[within(k, 0, KINDS - 1) ? k : 0];
        }

        private boolean isAshore(int person) {
            return out[person] == 0 && !lost[person];
        }

        private int said(int person, int of) {
            return talk[person * PEOPLE_MOST + of];
        }

        private void say(int person, int of, int v) {
            talk[person * PEOPLE_MOST + of] = v;
        }

        private int lawGives(int use, int a, int b, int c) {
            int given = texts[use].isThere() ? texts[use].value(a, b, c) : a;
            return use == ROPE ? held(given, 0, 199) : held(given, -9, 9);
        }

        /** ROPE by one for another one of whom he says so much. */
        private int ropeBy(int person, int of, int said) {
            int given = kindOf(person).gives(said, m[person], sea, out[of]);
            return lawGives(ROPE, given, said, sea);
        }

        private int ropeOf(int of) {
            int all = 0;
            for (int i = 0; i < count; i++) {
                if (i != of && isAshore(i)) {
                    all += ropeBy(i, of, said(i, of));
                }
            }
            return all;
        }

        /** How many get LOST in this DAY. */
        private int dayGoesBy() {
            int gone = 0;
            for (int i = 0; i < count; i++) {
                if (out[i] > 0 && !lost[i] && out[i] + SEA_TAKES * sea > ropeOf(i)) {
                    gone |= 1 << i;
                }
            }
            for (int i = 0; i < count; i++) {
                lost[i] = lost[i] || (gone & (1 << i)) != 0;
            }
            turnWords();
            day++;
            return Integer.bitCount(gone);
        }

        private void turnWords() {
            for (int i = 0; i < count; i++) {
                for (int of = 0; of < count; of++) {
                    if (i != of) {
                        int said = said(i, of);
                        int turn = kindOf(i).turns(said, day, out[of]);
                        say(i, of, held(said + lawGives(CHANGE, turn, said, day % 7), 0, SAID_MOST));
                    }
                }
            }
        }

        private void drawSeaAndSwimmer() {
            sea = draw() % 10;
            if (count > 0) {
                int swimmer = draw() % count;
                int far = draw() % 60;
                if (!lost[swimmer]) {
                    out[swimmer] = far;
                }
            }
        }

        private int draw() {
            z = z * 1103515245 + 12345;
            return z >>> 8;
        }
    }

    /** A TEXT, or none: code for a stack, in which signs stand behind what they work on. */
    private static final class Text {
        private static final char[] NAMES = {'g', 't', 's', 'c', 'l', 'd'};
        private static final int NAMES_EACH = 3;
        private static final int DIGITS_MOST = 4;
        private static final int OPEN_MOST = 5;
        private static final int END = -1;

        // How close a sign binds: 0 the | of T, 1 the & of A, and so on inwards to Q.
        private static final int COMPARED = 2;
        private static final int SINGLE = 5;

        private final int[] code = new int[TAPE_MOST];
        private final int[] stack = new int[TAPE_MOST];
        private final byte[] bytes = new byte[TAPE_MOST];
        private int length = 0;
        private int size = 0;
        private int use = 0;
        private int at = 0;
        private boolean faulty = false;

        private boolean isThere() {
            return length > 0;
        }

        private void forget() {
            length = 0;
        }

        private void copy(Text other) {
            System.arraycopy(other.code, 0, code, 0, code.length);
            length = other.length;
        }

        /** Whether so many bytes of THE TAPE are one TEXT of that USE; if not, place() is the FAULT. */
        private boolean reads(byte[] tape, int fed, int forUse) {
            System.arraycopy(tape, 0, bytes, 0, bytes.length);
            size = fed;
            use = forUse;
            at = 0;
            length = 0;
            faulty = false;
            readParts(0, 0);
            return !faulty && at == size;
        }

        private int place() {
            return at;
        }

        private int next() {
            return at < size && at < bytes.length ? bytes[at] & 255 : END;
        }

        /** Reads what binds as closely as that, with so many of ! and ( open around it. */
        private void readParts(int binds, int open) {
            if (binds >= SINGLE) {
                readSingle(open);
                return;
            }
            readParts(binds + 1, open);
            int most = binds == COMPARED ? 1 : TAPE_MOST;
            for (int more = 0; more < most && !faulty && bindsOf(next()) == binds; more++) {
                int sign = next();
                at++;
                readParts(binds + 1, open);
                add(-sign);
            }
        }

        private static int bindsOf(int sign) {
            switch (sign) {
                case '|':
                    return 0;
                case '&':
                    return 1;
                case '<':
                case '=':
                case '>':
                    return COMPARED;
                case '+':
                case '-':
                    return 3;
                case '*':
                case '/':
                case '%':
                    return 4;
                default:
                    return -1;
            }
        }

        private void readSingle(int open) {
            int sign = next();
            if (isDigit(sign)) {
                readNumber();
            } else if (nameOf(sign) >= 0) {
                at++;
                add(-1 - nameOf(sign));
            } else if (sign == '!' && open < OPEN_MOST) {
                at++;
                readSingle(open + 1);
                add(-sign);
            } else if (sign == '(' && open < OPEN_MOST) {
                at++;
                readParts(0, open + 1);
                close();
            } else {
                faulty = true;
            }
        }

        private void close() {
            if (!faulty && next() == ')') {
                at++;
            } else {
                faulty = true;
            }
        }

        private static boolean isDigit(int sign) {
            return sign >= '0' && sign <= '9';
        }

        private void readNumber() {
            int number = 0;
            for (int digits = 0; digits < DIGITS_MOST && isDigit(next()); digits++) {
                number = number * 10 + next() - '0';
                at++;
            }
            add(number);
        }

        /** Which of the NAMES of this USE that is; below 0 if none. */
        private int nameOf(int sign) {
            for (int i = 0; i < NAMES_EACH; i++) {
                int place = use * NAMES_EACH + i;
                if (place >= 0 && place < NAMES.length && NAMES[place] == sign) {
                    return i;
                }
            }
            return -1;
        }

        /** Code is a NUMBER itself, a NAME as -1 to -3, a sign less than that. */
        private void add(int step) {
            if (length < code.length) {
                code[length] = step;
                length++;
            }
        }

        private int value(int a, int b, int c) {
            int top = 0;
            for (int i = 0; i < length; i++) {
                int step = code[i];
                if (step >= -NAMES_EACH && top < stack.length) {
                    stack[top] = step >= 0 ? step : step == -1 ? a : step == -2 ? b : c;
                    top++;
                } else if (step == -'!' && top >= 1) {
                    stack[top - 1] = stack[top - 1] == 0 ? 1 : 0;
                } else if (top >= 2) {
                    top--;
                    stack[top - 1] = worked(-step, stack[top - 1], stack[top]);
                }
            }
            return stack[0];
        }

        private static int worked(int sign, int a, int b) {
            switch (sign) {
                case '|':
                    return a != 0 || b != 0 ? 1 : 0;
                case '&':
                    return a != 0 && b != 0 ? 1 : 0;
                case '<':
                    return a < b ? 1 : 0;
                case '=':
                    return a == b ? 1 : 0;
                case '>':
                    return a > b ? 1 : 0;
                case '+':
                    return a + b;
                case '-':
                    return a - b;
                case '*':
                    return a * b;
                case '/':
                    return b == 0 ? 0 : a / b;
                default:
                    return b == 0 ? 0 : a % b;
            }
        }
    }

    /** A row of numbers of 8, 16 or 32 bits, with their sign as in Java; of 0 bits if missing. */
    private static final class Sheet {
        private final int[] row = new int[SHEET_MOST];
        private int bits = 0;
        private int size = 0;

        private boolean isMissing() {
            return bits == 0;
        }

        private void renew(int newBits, int n) {
            for (int i = 0; i < row.length; i++) {
                row[i] = 0;
            }
            bits = newBits;
            size = n;
        }

        private void set(int i, int v) {
            row[i] = bits == 8 ? (byte) v : bits == 16 ? (short) v : v;
        }

        /** Asked by a difference, as i and n together may wrap. */
        private boolean holds(int i, int n) {
            return i >= 0 && n >= 0 && n <= size && i <= size - n;
        }
    }

    /** The latest voice(): whose it is, the BODIES that began, and whether it was PARTED. */
    private static final class Voice {
        private final int[] bodies = new int[TRACE_MOST];
        private int began = 0;
        private int k = 0;
        private int m = 0;
        private boolean parted = false;

        private void start(int number, int told) {
            k = number;
            m = told;
            began = 0;
            parted = false;
        }

        private void begin(int body) {
            if (began < bodies.length) {
                bodies[began] = body;
                began++;
            }
        }
    }

    /** KIND 0, above all others. KINDS hold nothing; each calls on as its BODIES do in the document. */
    private static class Person {
        int gives(int said, int m, int sea, int out) {
            return said;
        }

        int turns(int said, int day, int out) {
            return out > 0 ? 1 : -1;
        }

        int say(Voice v, int x) {
            v.begin(10);
            return x + v.k;
        }

        int let(Voice v, int x) {
            v.begin(11);
            return say(v, x) * 2;
        }

        int haul(Voice v, int x) {
            v.begin(12);
            return let(v, x) - v.m;
        }

        int part(Voice v, int x) {
            v.begin(13);
            int by = v.m - v.k;
            if (by == 0) {
                v.parted = true;
                return 0;
            }
            return x / by;
        }
    }

    private static class Gossip extends Person {
        int gives(int said, int m, int sea, int out) {
            return said + m;
        }

        int turns(int said, int day, int out) {
            return super.turns(said, day, out) + day % 3;
        }

        int say(Voice v, int x) {
            v.begin(20);
            return super.say(v, x) - 4;
        }

        int part(Voice v, int x) {
            v.begin(21);
            int parts = super.part(v, x);
            return v.parted ? 0 : parts + let(v, 1);
        }
    }

    private static class Mayor extends Person {
        int gives(int said, int m, int sea, int out) {
            return said / 2 + 10;
        }

        int turns(int said, int day, int out) {
            return 0;
        }

        int let(Voice v, int x) {
            v.begin(30);
            return 0 - super.let(v, x);
        }
    }

    private static final class Cutter extends Person {
        int gives(int said, int m, int sea, int out) {
            return said < 10 + m ? 0 : said;
        }

        int haul(Voice v, int x) {
            v.begin(40);
            return super.haul(v, x / 2);
        }
    }

    private static final class Doctor extends Gossip {
        int gives(int said, int m, int sea, int out) {
            return super.gives(said, m, sea, out) + sea;
        }

        int turns(int said, int day, int out) {
            return super.turns(said, day, out) - 1;
        }

        int say(Voice v, int x) {
            v.begin(50);
            return super.say(v, x) * 3;
        }

        int haul(Voice v, int x) {
            v.begin(51);
            return super.haul(v, x) ^ v.k;
        }
    }

    private static final class Judge extends Mayor {
        int gives(int said, int m, int sea, int out) {
            return super.gives(said, m, sea, out) - m;
        }

        int turns(int said, int day, int out) {
            int mayors = super.turns(said, day, out);
            return said < 20 ? mayors + 2 : mayors - 2;
        }

        int let(Voice v, int x) {
            v.begin(60);
            return super.let(v, x + 1);
        }
    }

    private static final class Widow extends Person {
        int gives(int said, int m, int sea, int out) {
            return out > 50 ? 2 * said : said;
        }

        int turns(int said, int day, int out) {
            return 2 * super.turns(said, day, out);
        }

        int say(Voice v, int x) {
            v.begin(70);
            return 9;
        }

        int let(Voice v, int x) {
            v.begin(71);
            return super.let(v, x) + v.m;
        }
    }
}
