/** Counts the answers that are due and those that aren't; a test ends by end(). */
final class Due {
    static final int LOW = -1000000000;
    static final int BEYOND = LOW - 1;
    static final int NONE = LOW - 2;
    static final int STATE = LOW - 3;
    static final int FULL = LOW - 4;
    static final int KIND = LOW - 5;
    static final int PARTED = LOW - 6;
    static final int MIN = Integer.MIN_VALUE;
    static final int MAX = Integer.MAX_VALUE;

    private static int right = 0;
    private static int wrong = 0;

    private Due() {
    }

    static void is(String what, long got, long want) {
        if (got == want) {
            right++;
            return;
        }
        wrong++;
        if (wrong <= 20) {
            System.out.println(what + " answered " + got + ", due is " + want);
        }
    }

    static void holds(String what, boolean so) {
        is(what, so ? 1 : 0, 1);
    }

    static void end(String test) {
        System.out.println(test + ": " + right + " right, " + wrong + " wrong");
        if (wrong > 0 || right == 0) {
            System.exit(1);
        }
    }

    /** A shore with one of PEOPLE for each km. */
    static RopeShore shore(int... kms) {
        RopeShore x = new RopeShore();
        for (int km : kms) {
            x.person(km);
        }
        return x;
    }

    /** Feeds a text's bytes, as many words as it takes: what the last feed() answered. */
    static int feed(RopeShore x, String text) {
        int answer = 0;
        for (int at = 0; at < text.length(); at += 8) {
            int n = Math.min(8, text.length() - at);
            long word = 0;
            for (int i = n - 1; i >= 0; i--) {
                word = word << 8 | text.charAt(at + i);
            }
            answer = x.feed(word, n);
        }
        return answer;
    }

    /** What text() answers after a feed of those bytes. */
    static int text(RopeShore x, int use, String text) {
        feed(x, text);
        return x.text(use);
    }

    /** Makes a SHEET of so many bits with those numbers. */
    static void sheet(RopeShore x, int sheet, int bits, int... numbers) {
        x.sheet(sheet, bits, numbers.length);
        for (int i = 0; i < numbers.length; i++) {
            x.put(sheet, i, numbers[i]);
        }
    }
}
