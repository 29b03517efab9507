/** Promises 25 and 26: VOICES by KINDS, and THE TRACE of their BODIES. */
public final class VoicesTest {
    public static void main(String[] args) {
        byKinds();
        wraps();
        byNumber();
        parted();
        beyond();
        body();
        Due.end("VoicesTest");
    }

    /** What number 1 of a KIND, with m 5, answers, and the BODIES that began. */
    private static void voice(int kind, int voice, int x, int due, int... bodies) {
        RopeShore shore = Due.shore(0, kind * 10 + 5);
        String what = "promise 25: KIND " + kind + ", voice " + voice + " of " + x;
        Due.is(what, shore.voice(1, voice, x), due);
        Due.is(what + ": BODIES", shore.count(5), bodies.length);
        for (int i = 0; i < bodies.length; i++) {
            Due.is("promise 26: " + what + ", BODY " + i, shore.body(i), bodies[i]);
        }
        Due.is("promise 26: one more", shore.body(bodies.length), Due.NONE);
    }

    private static void byKinds() {
        voice(0, 0, 7, 8, 10);
        voice(0, 1, 7, 16, 11, 10);
        voice(0, 2, 7, 11, 12, 11, 10);
        voice(0, 3, 19, 4, 13);
        voice(0, 3, -19, -4, 13);
        voice(1, 0, 7, 4, 20, 10);
        voice(1, 1, 7, 8, 11, 20, 10);
        voice(1, 2, 7, 3, 12, 11, 20, 10);
        voice(1, 3, 19, 4 - 4, 21, 13, 11, 20, 10);
        voice(2, 0, 7, 8, 10);
        voice(2, 1, 7, -16, 30, 11, 10);
        voice(2, 2, 7, -21, 12, 30, 11, 10);
        voice(2, 3, 19, 4, 13);
        voice(3, 0, 7, 8, 10);
        voice(3, 1, 7, 16, 11, 10);
        voice(3, 2, 7, 3, 40, 12, 11, 10);
        voice(3, 2, -7, -9, 40, 12, 11, 10);
        voice(3, 3, 19, 4, 13);
        voice(4, 0, 7, 12, 50, 20, 10);
        voice(4, 1, 7, 24, 11, 50, 20, 10);
        voice(4, 2, 7, 19 ^ 1, 51, 12, 11, 50, 20, 10);
        voice(4, 3, 19, 4 - 12, 21, 13, 11, 50, 20, 10);
        voice(5, 0, 7, 8, 10);
        voice(5, 1, 7, -18, 60, 30, 11, 10);
        voice(5, 2, 7, -23, 12, 60, 30, 11, 10);
        voice(5, 3, 19, 4, 13);
        voice(6, 0, 7, 9, 70);
        voice(6, 1, 7, 23, 71, 11, 70);
        voice(6, 2, 7, 18, 12, 71, 11, 70);
        voice(6, 3, 19, 4, 13);
    }

    private static void wraps() {
        voice(0, 0, Due.MAX, Due.MIN, 10);
        voice(0, 1, Due.MAX, 0, 11, 10);
        voice(4, 0, Due.MAX, (Due.MAX - 3) * 3, 50, 20, 10);
        RopeShore x = Due.shore(1, 0);
        Due.is("promise 25: by 1", x.voice(0, 3, Due.MIN), Due.MIN);
        Due.is("promise 25: by -1", x.voice(1, 3, Due.MIN), Due.MIN);
        Due.is("promise 25: by -1, too", x.voice(1, 3, 8), -8);
        Due.is("promise 25: like an ERROR", x.voice(0, 0, Due.BEYOND), Due.BEYOND);
        Due.is("promise 25: that is none", x.told(1), 0);
    }

    private static void byNumber() {
        RopeShore x = Due.shore(9, 9, 9, 9, 9, 9, 9, 49);
        for (int k = 0; k < 7; k++) {
            Due.is("promise 25: says by number " + k, x.voice(k, 0, 100), 100 + k);
            Due.is("promise 25: parts by number " + k, x.voice(k, 3, 100), 100 / (9 - k));
        }
        Due.is("promise 25: number 7 hauls", x.voice(7, 2, 1), (3 * (1 + 7 - 4) * 2 - 9) ^ 7);
        x.swim(7, 60);
        x.weather(9);
        Due.is("promise 25: the same when OUT", x.voice(7, 2, 1), (3 * (1 + 7 - 4) * 2 - 9) ^ 7);
    }

    private static void parted() {
        for (int kind = 0; kind < 7; kind++) {
            RopeShore x = Due.shore(0, 10 * kind + 1);
            x.voice(0, 2, 3);
            Due.is("promise 25: PARTED, KIND " + kind, x.voice(1, 3, 9), Due.PARTED);
            Due.is("promise 25: PARTED is counted", x.told(6), 1);
            Due.is("promise 25: and goes on", x.voice(1, 0, 9) == Due.PARTED ? 1 : 0, 0);
            x.become(1, 10 * kind + 2);
            Due.is("promise 25: another m", x.voice(1, 3, 9) == Due.PARTED ? 1 : 0, 0);
        }
        for (int kind = 0; kind < 7; kind++) {
            if (kind == 1 || kind == 4) {
                traceOfParted(kind, 21, 13);
            } else {
                traceOfParted(kind, 13);
            }
        }
    }

    /** Of the latest voice() are the BODIES that began, though it was PARTED; none begins after that. */
    private static void traceOfParted(int kind, int... bodies) {
        String what = "promise 26: PARTED, KIND " + kind;
        RopeShore x = Due.shore(0, 10 * kind + 1);
        for (int time = 0; time < 3; time++) {
            x.voice(1, 3, 9);
            Due.is(what + ", after " + time, x.count(5), bodies.length);
            for (int i = 0; i < bodies.length; i++) {
                Due.is(what + ", BODY " + i, x.body(i), bodies[i]);
            }
            Due.is(what + ", one more", x.body(bodies.length), Due.NONE);
            x.voice(0, time, 3);
            Due.is(what + ", then another", x.count(5), time + 1);
            Due.is(what + ", then another", x.body(0), 10 + time);
        }
        x.voice(1, 3, 9);
        x.voice(1, 4, 9);
        Due.is(what + ", BEYOND leaves it", x.count(5), bodies.length);
    }

    private static void beyond() {
        RopeShore x = Due.shore(1);
        x.voice(0, 1, 0);
        Due.is("promise 25: no voice below", x.voice(0, -1, 0), Due.BEYOND);
        Due.is("promise 25: no voice above", x.voice(0, 4, 0), Due.BEYOND);
        Due.is("promise 25: nobody", x.voice(1, 0, 0), Due.BEYOND);
        Due.is("promise 25: nobody below", x.voice(-1, 0, 0), Due.BEYOND);
        Due.is("promise 26: THE TRACE stays", x.count(5), 2);
    }

    private static void body() {
        RopeShore x = Due.shore(1);
        Due.is("promise 26: none at first", x.body(0), Due.NONE);
        x.voice(0, 2, 0);
        x.voice(0, 1, 0);
        Due.is("promise 26: of the latest", x.count(5), 2);
        Due.is("promise 26: its first", x.body(0), 11);
        Due.is("promise 26: its second", x.body(1), 10);
        Due.is("promise 26: no third", x.body(2), Due.NONE);
        x.voice(0, 0, 0);
        Due.is("promise 26: of the latest again", x.count(5), 1);
        Due.is("promise 26: no more of those ahead", x.body(1), Due.NONE);
        x.voice(0, 1, 0);
        Due.is("promise 26: none below", x.body(-1), Due.NONE);
        Due.is("promise 26: none far above", x.body(Due.MAX), Due.NONE);
    }
}
