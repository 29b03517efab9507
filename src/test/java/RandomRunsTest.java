import java.util.Random;

/** Runs of nearly 512 calls, by a seed each, in which the program is to answer as the Model does. */
public final class RandomRunsTest {
    private static final int RUNS = 1000;
    private static final int CALLS = 512;
    private static final int MOST_AT_ONCE = 60;
    private static final int[] EXTREMES = {
        Due.MIN, Due.MIN + 1, -2, -1, 24, 25, 60, 61, 70, 99, 100, 500, 501, Due.MAX - 1, Due.MAX
    };
    private static final String[] SIGNS = {"|", "&", "<", "=", ">", "+", "-", "*", "/", "%"};
    private static final String[] NAMES = {"gts", "cld"};

    private final Random random;
    private final RopeShore x = new RopeShore();
    private final Model y = new Model();
    private final String run;
    private final int wild;
    private int calls = 0;

    private RandomRunsTest(int seed) {
        random = new Random(seed);
        run = "run " + seed;
        wild = seed % 3 == 0 ? 6 : 40;
    }

    public static void main(String[] args) {
        for (int seed = 0; seed < RUNS; seed++) {
            RandomRunsTest test = new RandomRunsTest(seed);
            test.begin();
            while (test.calls <= CALLS - MOST_AT_ONCE) {
                test.call();
            }
            Due.holds("no more than are promised", test.calls <= CALLS);
        }
        texts();
        Due.end("RandomRunsTest");
    }

    /** Short strings of all signs, so that each FAULT is met at each place. */
    private static void texts() {
        Random random = new Random(7);
        String all = "gts|&<=>+-*/%!()!()0190x";
        for (int n = 0; n < 60000; n++) {
            StringBuilder text = new StringBuilder();
            int length = random.nextInt(9);
            for (int i = 0; i < length; i++) {
                text.append(all.charAt(random.nextInt(all.length())));
            }
            boolean is = Model.isText(text.toString(), "gts");
            int due = is ? 1 : -10 - Model.faultOf(text.toString(), "gts");
            Due.is("'" + text + "'", Due.text(new RopeShore(), 0, text.toString()), due);
        }
    }

    private void begin() {
        int people = random.nextInt(9);
        for (int i = 0; i < people; i++) {
            int km = random.nextInt(70);
            same("person", x.person(km), y.person(km));
        }
        for (int i = 0; i < people; i++) {
            for (int of = 0; of < people; of++) {
                int v = random.nextInt(100);
                same("tells", x.tells(i, of, v), y.tells(i, of, v));
            }
        }
    }

    private void same(String call, int got, int want) {
        calls++;
        Due.is(run + ": " + call, got, want);
    }

    /** Mostly one that is asked for, now and then any. */
    private int arg(int least, int most) {
        if (random.nextInt(wild) == 0) {
            return EXTREMES[random.nextInt(EXTREMES.length)];
        }
        return least + random.nextInt(most - least + 1);
    }

    private int one() {
        return arg(0, 7);
    }

    private int any() {
        return random.nextInt(3) == 0 ? random.nextInt() : arg(-20, 200);
    }

    private void call() {
        int group = random.nextInt(20);
        if (group < 6) {
            people();
        } else if (group < 8) {
            laws();
        } else if (group < 10) {
            time();
        } else if (group < 14) {
            thought();
        } else if (group < 18) {
            rows();
        } else {
            rest();
        }
    }

    private void people() {
        int a = one();
        int b = one();
        switch (random.nextInt(13)) {
            case 0: {
                int km = arg(0, 69);
                same("person(" + km + ")", x.person(km), y.person(km));
                break;
            }
            case 1: {
                int km = arg(0, 69);
                same("become(" + a + ", " + km + ")", x.become(a, km), y.become(a, km));
                break;
            }
            case 2: {
                int kind = arg(0, 6);
                same("as(" + a + ", " + kind + ")", x.as(a, kind), y.as(a, kind));
                break;
            }
            case 3:
            case 4: {
                int v = arg(0, 99);
                same("tells(" + a + ", " + b + ", " + v + ")", x.tells(a, b, v), y.tells(a, b, v));
                break;
            }
            case 5:
                same("rope(" + a + ", " + b + ")", x.rope(a, b), y.rope(a, b));
                break;
            case 6: {
                int far = random.nextInt(3) == 0 ? arg(0, 500) : random.nextInt(4) * 30;
                same("swim(" + a + ", " + far + ")", x.swim(a, far), y.swim(a, far));
                break;
            }
            case 7:
            case 8:
                same("saves(" + a + ")", x.saves(a), y.saves(a));
                break;
            case 9: {
                int v = arg(0, 9);
                same("weather(" + v + ")", x.weather(v), y.weather(v));
                break;
            }
            default: {
                int what = arg(0, 4);
                same("personIs(" + a + ", " + what + ")", x.personIs(a, what), y.personIs(a, what));
                break;
            }
        }
    }

    private String text(String names, int depth) {
        int form = random.nextInt(depth > 3 ? 3 : 10);
        if (form < 2) {
            return "" + names.charAt(random.nextInt(3));
        }
        if (form < 3) {
            return "" + random.nextInt(random.nextBoolean() ? 20 : 10000);
        }
        if (form < 4) {
            return "!" + text(names, depth + 1);
        }
        if (form < 6) {
            return "(" + text(names, depth + 1) + ")";
        }
        return text(names, depth + 1) + SIGNS[random.nextInt(SIGNS.length)] + text(names, depth + 1);
    }

    private void laws() {
        int use = arg(0, 1);
        switch (random.nextInt(6)) {
            case 0: {
                int n = arg(1, 8);
                long word = random.nextLong();
                same("feed(" + word + ", " + n + ")", x.feed(word, n), y.feed(word, n));
                break;
            }
            case 1:
            case 2:
                wholeText(use);
                break;
            case 3:
                same("untell(" + use + ")", x.untell(use), y.untell(use));
                break;
            default: {
                int a = any();
                int b = any();
                int c = any();
                String what = "law(" + use + ", " + a + ", " + b + ", " + c + ")";
                same(what, x.law(use, a, b, c), y.law(use, a, b, c));
                break;
            }
        }
    }

    private void wholeText(int use) {
        String text = text(NAMES[use == 1 ? 1 : 0], 0);
        if (random.nextInt(10) == 0) {
            int at = random.nextInt(text.length());
            text = text.substring(0, at) + (char) random.nextInt(256) + text.substring(at);
        }
        same("count(3)", x.count(3), y.count(3));
        if (y.count(3) > 0 && random.nextInt(4) > 0) {
            same("text(1)", x.text(1), y.text(1));
        }
        for (int at = 0; at < text.length(); at += 8) {
            int n = Math.min(8, text.length() - at);
            long word = 0;
            for (int i = n - 1; i >= 0; i--) {
                word = word << 8 | text.charAt(at + i);
            }
            same("feed(" + word + ", " + n + ")", x.feed(word, n), y.feed(word, n));
        }
        same("text(" + use + ") of " + text, x.text(use), y.text(use));
    }

    private void time() {
        switch (random.nextInt(3)) {
            case 0: {
                int n = random.nextInt(3) == 0 ? arg(1, 60) : 1 + random.nextInt(3);
                same("days(" + n + ")", x.days(n), y.days(n));
                break;
            }
            case 1: {
                int n = random.nextInt(3) == 0 ? arg(1, 30) : 1;
                same("loose(" + n + ")", x.loose(n), y.loose(n));
                break;
            }
            default: {
                int v = any();
                same("seed(" + v + ")", x.seed(v), y.seed(v));
                break;
            }
        }
    }

    private void thought() {
        int a = one();
        int what = arg(0, 1);
        int far = random.nextInt(4) == 0 ? arg(0, 500) : arg(1, 200);
        switch (random.nextInt(7)) {
            case 0: {
                int n = arg(0, 60);
                same("then(" + a + ", " + n + ", " + what + ")", x.then(a, n, what), y.then(a, n, what));
                break;
            }
            case 1:
                same("cuts(" + a + ", " + far + ", " + what + ")", x.cuts(a, far, what), y.cuts(a, far, what));
                break;
            case 2:
                same("hauls(" + a + ", " + far + ", " + what + ")", x.hauls(a, far, what), y.hauls(a, far, what));
                break;
            case 3:
                same("party(" + far + ", " + what + ")", x.party(far, what), y.party(far, what));
                break;
            case 4:
                same("speaks(" + a + ", " + what + ")", x.speaks(a, what), y.speaks(a, what));
                break;
            case 5:
                same("odds(" + a + ", " + far + ", " + what + ")", x.odds(a, far, what), y.odds(a, far, what));
                break;
            default: {
                int sheet = arg(0, 3);
                if (random.nextInt(3) > 0) {
                    ropesOn(sheet, random.nextInt(12));
                }
                same("fits(" + sheet + ")", x.fits(sheet), y.fits(sheet));
                break;
            }
        }
    }

    /** Puts what THEN tells of ROPES so many DAYS on into a SHEET, so that FITS finds them. */
    private void ropesOn(int sheet, int days) {
        int bits = random.nextInt(3) == 0 ? 8 : 16;
        int n = random.nextInt(9);
        same("sheet(" + sheet + ")", x.sheet(sheet, bits, n), y.sheet(sheet, bits, n));
        for (int i = 0; i < n; i++) {
            int rope = x.then(i, days, 0);
            same("then(" + i + ")", rope, y.then(i, days, 0));
            same("put(" + sheet + ", " + i + ")", x.put(sheet, i, rope), y.put(sheet, i, rope));
        }
    }

    private void rows() {
        int sheet = arg(0, 3);
        int i = arg(0, 9);
        switch (random.nextInt(7)) {
            case 0: {
                int bits = arg(0, 4) * 8;
                int n = random.nextInt(4) == 0 ? arg(-1, 25) : arg(4, 10);
                same("sheet(" + sheet + ", " + bits + ", " + n + ")", x.sheet(sheet, bits, n), y.sheet(sheet, bits, n));
                break;
            }
            case 1:
            case 2: {
                int v = any();
                same("put(" + sheet + ", " + i + ", " + v + ")", x.put(sheet, i, v), y.put(sheet, i, v));
                break;
            }
            case 3: {
                int other = arg(0, 3);
                int j = arg(0, 9);
                int n = arg(0, 8);
                String what = "move(" + sheet + ", " + i + ", " + other + ", " + j + ", " + n + ")";
                same(what, x.move(sheet, i, other, j, n), y.move(sheet, i, other, j, n));
                break;
            }
            case 4: {
                int a = one();
                same("words(" + a + ", " + sheet + ")", x.words(a, sheet), y.words(a, sheet));
                break;
            }
            default:
                if (random.nextBoolean()) {
                    ropesOn(sheet, 0);
                }
                same("judge(" + sheet + ")", x.judge(sheet), y.judge(sheet));
                break;
        }
    }

    private void rest() {
        switch (random.nextInt(11)) {
            case 0:
            case 1: {
                int a = one();
                int voice = arg(0, 3);
                int v = any();
                same("voice(" + a + ", " + voice + ", " + v + ")", x.voice(a, voice, v), y.voice(a, voice, v));
                break;
            }
            case 2: {
                int i = arg(0, 8);
                same("body(" + i + ")", x.body(i), y.body(i));
                break;
            }
            case 3:
                same("image()", x.image(), y.image());
                break;
            case 4:
                same("restore()", x.restore(), y.restore());
                break;
            case 5:
            case 6:
                waitingNumbers();
                break;
            case 7:
                same("check()", x.check(), y.check());
                break;
            case 8: {
                int k = arg(1, 6);
                same("told(" + k + ")", x.told(k), y.told(k));
                break;
            }
            default: {
                int what = arg(0, 6);
                same("count(" + what + ")", x.count(what), y.count(what));
                break;
            }
        }
    }

    private void waitingNumbers() {
        int n = 1 + random.nextInt(9);
        for (int i = 0; i < n; i++) {
            int out = x.personIs(i, 2);
            same("personIs(" + i + ", 2)", out, y.personIs(i, 2));
            if (random.nextInt(20) == 0) {
                out = any();
            }
            same("tell(" + out + ")", x.tell(out), y.tell(out));
        }
        if (random.nextBoolean()) {
            same("check()", x.check(), y.check());
        }
    }
}
