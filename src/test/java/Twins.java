import java.util.ArrayList;
import java.util.List;

/**
 * Twins: two shores with one history. One of them is asked for a call that it refuses; from then on
 * both are to answer alike, whatever is asked of them, but for what told() tells.
 */
final class Twins {
    /** A history: it makes a new shore each time, always the same. */
    interface History {
        RopeShore make();
    }

    interface Call {
        int on(RopeShore x);
    }

    /** A call by one of its arguments. */
    interface Arg {
        int on(RopeShore x, int v);
    }

    private static final int PROBES = 7;

    private Twins() {
    }

    // ---- histories

    static RopeShore fresh() {
        return new RopeShore();
    }

    /** Four of PEOPLE; 1 is OUT 7, 2 is OUT 60, 3 is LOST; an IMAGE of other times; SHEET 3 is missing. */
    static RopeShore lively() {
        RopeShore x = Due.shore(14, 35, 60, 42);
        for (int i = 0; i < 4; i++) {
            for (int of = 0; of < 4; of++) {
                if (i != of) {
                    x.tells(i, of, (17 * i + 29 * of + 11) % 100);
                }
            }
        }
        Due.text(x, 0, "g+t/9+s");
        Due.text(x, 1, "c-d%2");
        x.weather(4);
        x.swim(3, 400);
        x.days(11);
        x.swim(2, 60);
        Due.feed(x, "t");
        x.tell(5);
        x.image();
        x.check();
        x.text(0);
        Due.text(x, 0, "g+s*2");
        x.untell(1);
        x.weather(3);
        x.swim(1, 7);
        x.tells(0, 1, 55);
        x.seed(99);
        Due.feed(x, "g*2-t");
        x.tell(0);
        x.tell(7);
        Due.sheet(x, 0, 8, 5, 66, 7);
        Due.sheet(x, 1, 16, 9, 8, 77, 6);
        Due.sheet(x, 2, 8, 1, 2);
        x.voice(3, 2, 9);
        return x;
    }

    /** As much as there may be: 8 of PEOPLE, DAY 9999, 60 bytes, 24 that wait, SHEETS of 24 numbers. */
    static RopeShore full() {
        RopeShore x = new RopeShore();
        for (int i = 0; i < 166; i++) {
            x.days(60);
        }
        x.days(39);
        for (int i = 0; i < 8; i++) {
            x.person(i % 7 * 10 + i + 1);
        }
        Due.sheet(x, 0, 8, 20, 31, 42, 53, 64, 75, 86, 97);
        for (int i = 0; i < 8; i++) {
            x.words(i, 0);
        }
        x.sheet(1, 8, 24);
        x.move(0, 0, 1, 16, 8);
        x.move(0, 0, 1, 5, 8);
        x.sheet(0, 8, 24);
        x.move(1, 0, 0, 2, 22);
        x.sheet(2, 16, 24);
        x.sheet(3, 32, 24);
        x.swim(6, 51);
        x.swim(7, 500);
        for (int i = 0; i < 24; i++) {
            x.tell(i == 6 ? 51 : i == 7 ? 500 : 0);
        }
        x.weather(9);
        Due.feed(x, "1+1+1+1+1+1+1+1+1+1+1+1+1+1+1+1+1+1+1+1+1+1+1+1+1+1+1+1+1+15");
        return x;
    }

    // ---- what is held

    /** A call is refused with that ERROR, which told() counts; nothing else becomes another. */
    static void refused(String what, History history, Call call, int due) {
        RopeShore x = history.make();
        RopeShore y = history.make();
        Due.is(what, call.on(x), due);
        for (int k = 1; k <= 6; k++) {
            Due.is(what + ", then told(" + k + ")", x.told(k), y.told(k) + (Due.LOW - k == due ? 1 : 0));
        }
        alike(what, history, call);
    }

    /** A call leaves all as it was, whatever it answers, but for what told() tells. */
    static void alike(String what, History history, Call call) {
        for (int probe = 0; probe < PROBES; probe++) {
            RopeShore x = history.make();
            RopeShore y = history.make();
            call.on(x);
            List<Integer> got = shown(x, probe);
            List<Integer> want = shown(y, probe);
            Due.is(what + ", the first unlike answer of probe " + probe, firstUnlike(got, want), -1);
        }
    }

    private static int firstUnlike(List<Integer> got, List<Integer> want) {
        for (int i = 0; i < Math.max(got.size(), want.size()); i++) {
            if (i >= got.size() || i >= want.size() || !got.get(i).equals(want.get(i))) {
                return i;
            }
        }
        return -1;
    }

    /** A call is taken: told() counts no ERROR. */
    static void taken(String what, History history, Call call) {
        RopeShore x = history.make();
        RopeShore y = history.make();
        call.on(x);
        for (int k = 1; k <= 6; k++) {
            Due.is(what + ", then told(" + k + ")", x.told(k), y.told(k));
        }
    }

    /** The last values that are taken, and the first that are BEYOND, on both sides. */
    static void within(String what, History history, int least, int most, Arg call) {
        for (int v : new int[] {least, most}) {
            taken(what + " of " + v, history, x -> call.on(x, v));
        }
        beyond(what, history, call, least - 1, most + 1, Due.MIN, Due.MAX);
    }

    static void beyond(String what, History history, Arg call, int... values) {
        for (int v : values) {
            refused(what + " of " + v, history, x -> call.on(x, v), Due.BEYOND);
        }
    }

    // ---- what later calls show

    private static List<Integer> shown(RopeShore x, int probe) {
        List<Integer> seen = new ArrayList<>();
        switch (probe) {
            case 0:
                stands(x, seen);
                break;
            case 1:
                thought(x, seen);
                break;
            case 2:
                said(x, seen);
                break;
            case 3:
                tapeAndTexts(x, seen);
                break;
            case 4:
                sheets(x, seen);
                break;
            case 5:
                seen.add(x.restore());
                stands(x, seen);
                tapeAndTexts(x, seen);
                seen.add(x.image());
                break;
            default:
                seen.add(x.check());
                seen.add(x.tell(3));
                seen.add(x.loose(3));
                seen.add(x.days(2));
                stands(x, seen);
                seen.add(x.seed(5));
                break;
        }
        return seen;
    }

    private static void stands(RopeShore x, List<Integer> seen) {
        for (int what = 0; what <= 6; what++) {
            seen.add(x.count(what));
        }
        for (int person = 0; person < 9; person++) {
            for (int what = 0; what <= 4; what++) {
                seen.add(x.personIs(person, what));
            }
            seen.add(x.body(person));
        }
        for (int i = 0; i < 8; i++) {
            for (int of = 0; of < 8; of++) {
                seen.add(x.rope(i, of));
            }
        }
    }

    private static void thought(RopeShore x, List<Integer> seen) {
        for (int person = 0; person < 8; person++) {
            seen.add(x.then(person, 5, 0));
            seen.add(x.then(person, 2, 1));
            seen.add(x.cuts(person, 30, 1));
            seen.add(x.hauls(person, 30, 1));
            seen.add(x.speaks(person, 0));
            seen.add(x.speaks(person, 1));
            seen.add(x.odds(person, 20, 0));
        }
        seen.add(x.party(15, 1));
        for (int sheet = 0; sheet < 4; sheet++) {
            seen.add(x.fits(sheet));
            seen.add(x.judge(sheet));
        }
    }

    private static void said(RopeShore x, List<Integer> seen) {
        for (int i = 0; i < 8; i++) {
            for (int of = 0; of < 8; of++) {
                seen.add(x.tells(i, of, 0));
            }
        }
    }

    private static void tapeAndTexts(RopeShore x, List<Integer> seen) {
        for (int time = 0; time < 3; time++) {
            for (int use = 0; use < 2; use++) {
                seen.add(x.law(use, 1, 2, 3));
                seen.add(x.law(use, 90, 20, 5));
                seen.add(x.law(use, -3, 1, 0));
            }
            if (time == 0) {
                seen.add(x.text(0));
            } else {
                seen.add(x.untell(0));
                seen.add(x.untell(1));
            }
        }
    }

    private static void sheets(RopeShore x, List<Integer> seen) {
        for (int sheet = 0; sheet < 4; sheet++) {
            for (int other = 0; other < 4; other++) {
                seen.add(x.move(sheet, 0, other, 0, 0));
            }
            for (int from = 0; from < 24; from += 8) {
                seen.add(from == 0 ? 0 : x.move(sheet, from, sheet, 0, 8));
                seen.add(x.words(1, sheet));
                for (int of = 0; of < 8; of++) {
                    seen.add(x.tells(1, of, 0));
                }
            }
            for (int i = 1; i < 24; i += 5) {
                seen.add(x.put(sheet, i, 0));
            }
            seen.add(x.put(sheet, 3, 0));
            seen.add(x.put(sheet, 4, 0));
        }
    }
}
