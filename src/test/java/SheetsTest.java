/** Promises 27 to 31: SHEETS, their numbers, and what is done by them. */
public final class SheetsTest {
    public static void main(String[] args) {
        sheet();
        put();
        bits();
        move();
        moveWithin();
        words();
        judge();
        Due.end("SheetsTest");
    }

    private static void sheet() {
        RopeShore x = new RopeShore();
        Due.is("promise 27: 8 bits", x.sheet(0, 8, 24), 1);
        Due.is("promise 27: 16 bits", x.sheet(1, 16, 0), 1);
        Due.is("promise 27: 32 bits", x.sheet(2, 32, 1), 1);
        Due.is("promise 27: the last", x.sheet(3, 8, 3), 1);
        Due.is("promise 27: no such", x.sheet(4, 8, 3), Due.BEYOND);
        Due.is("promise 27: no such below", x.sheet(-1, 8, 3), Due.BEYOND);
        Due.is("promise 27: no such bits", x.sheet(0, 24, 3), Due.BEYOND);
        Due.is("promise 27: bits below", x.sheet(0, -8, 3), Due.BEYOND);
        Due.is("promise 27: bits of a long", x.sheet(0, 64, 3), Due.BEYOND);
        Due.is("promise 27: above", x.sheet(0, 8, 25), Due.BEYOND);
        Due.is("promise 27: the most", x.sheet(0, 32, Due.MAX), Due.BEYOND);
        Due.is("promise 27: below", x.sheet(0, 8, -1), Due.STATE);
        Due.is("promise 27: the least", x.sheet(0, 8, Due.MIN), Due.STATE);
        Due.is("promise 27: below, and no such", x.sheet(4, 8, -1), Due.BEYOND);
        Due.is("promise 27: below, and no such bits", x.sheet(0, 7, -1), Due.BEYOND);
        Due.is("promise 27: it stays", x.put(0, 23, 1), 1);
        Due.is("promise 27: missing", x.sheet(0, 0, -5), 1);
        Due.is("promise 27: missing, whatever n", x.sheet(1, 0, 99), 1);
        Due.is("promise 27: is missing", x.put(0, 0, 1), Due.NONE);
        Due.is("promise 27: is missing, too", x.judge(1), Due.NONE);
        x.person(0);
        Due.sheet(x, 2, 16, 5);
        x.sheet(2, 16, 1);
        Due.is("promise 27: all 0 again", x.judge(2), 1);
        x.put(2, 0, 5);
        x.sheet(2, 0, 0);
        x.sheet(2, 8, 1);
        Due.is("promise 27: all 0 behind missing", x.judge(2), 1);
    }

    private static void put() {
        RopeShore x = new RopeShore();
        x.sheet(1, 16, 2);
        Due.is("promise 28: the first", x.put(1, 0, 5), 1);
        Due.is("promise 28: the last", x.put(1, 1, 5), 1);
        Due.is("promise 28: no such number", x.put(1, 2, 5), Due.BEYOND);
        Due.is("promise 28: no such below", x.put(1, -1, 5), Due.BEYOND);
        Due.is("promise 28: missing", x.put(0, 0, 5), Due.NONE);
        Due.is("promise 28: missing, and no such number", x.put(0, -1, 5), Due.NONE);
        Due.is("promise 28: no such SHEET", x.put(4, 0, 5), Due.BEYOND);
        Due.is("promise 28: no such SHEET below", x.put(-1, 0, 5), Due.BEYOND);
    }

    /** Whether a number put so is right for a ROPE. */
    private static int right(int bits, int v, int rope) {
        RopeShore x = Due.shore(0, 0, 0, 0, 0);
        int left = rope;
        for (int i = 1; i < 5; i++) {
            x.tells(i, 0, Math.min(99, left));
            left -= Math.min(99, left);
        }
        x.sheet(0, bits, 1);
        x.put(0, 0, v);
        return x.judge(0);
    }

    private static void bits() {
        Due.is("promise 28: 8 bits", right(8, 127, 127), 1);
        Due.is("promise 28: the lowest 8 bits", right(8, 256 + 100, 100), 1);
        Due.is("promise 28: of one below 0", right(8, -156, 100), 1);
        Due.is("promise 28: not more", right(8, 256, 256), 0);
        Due.is("promise 28: 8 bits have a sign", right(8, 200, 200), 0);
        Due.is("promise 28: 16 bits", right(16, 300, 300), 1);
        Due.is("promise 28: the lowest 16 bits", right(16, 65536 * 3 + 300, 300), 1);
        Due.is("promise 28: 32 bits", right(32, 300, 300), 1);
        Due.is("promise 28: all 32 bits", right(32, 65536 + 300, 300), 0);
    }

    private static void move() {
        RopeShore x = Due.shore(0, 0, 0, 0);
        Due.sheet(x, 0, 8, 1, 2, 3, 4);
        Due.sheet(x, 1, 8, 90, 91, 92);
        Due.sheet(x, 2, 16, 1, 2);
        Due.is("promise 29: two", x.move(0, 2, 1, 1, 2), 2);
        says(x, 1, 90, 3, 4);
        says(x, 0, 1, 2, 3, 4);
        Due.is("promise 29: all", x.move(1, 0, 0, 1, 3), 3);
        says(x, 0, 1, 90, 3, 4);
        Due.is("promise 29: none", x.move(0, 4, 1, 3, 0), 0);
        Due.is("promise 29: one too many there", x.move(0, 0, 1, 1, 3), Due.BEYOND);
        Due.is("promise 29: one too many here", x.move(0, 2, 1, 0, 3), Due.BEYOND);
        Due.is("promise 29: none behind the end", x.move(0, 5, 1, 0, 0), Due.BEYOND);
        Due.is("promise 29: none behind the end there", x.move(0, 0, 1, 4, 0), Due.BEYOND);
        Due.is("promise 29: n below", x.move(0, 1, 1, 1, -1), Due.BEYOND);
        Due.is("promise 29: i below", x.move(0, -1, 1, 0, 1), Due.BEYOND);
        Due.is("promise 29: j below", x.move(0, 0, 1, -1, 1), Due.BEYOND);
        Due.is("promise 29: wraps", x.move(0, Due.MAX, 1, Due.MAX, 2), Due.BEYOND);
        Due.is("promise 29: wraps, too", x.move(0, 2, 1, 2, Due.MAX), Due.BEYOND);
        Due.is("promise 29: unlike bits", x.move(0, 0, 2, 0, 1), Due.KIND);
        Due.is("promise 29: unlike bits, and n below", x.move(2, 0, 0, 0, -1), Due.KIND);
        Due.is("promise 29: missing there", x.move(0, 0, 3, 0, -1), Due.NONE);
        Due.is("promise 29: missing here", x.move(3, 0, 0, 0, 1), Due.NONE);
        Due.is("promise 29: no such there", x.move(3, 0, 4, 0, 1), Due.BEYOND);
        Due.is("promise 29: no such here", x.move(-1, 0, 3, 0, 1), Due.BEYOND);
        Due.is("promise 29: no such there below", x.move(0, 0, -1, 0, 1), Due.BEYOND);
        Due.is("promise 29: no such here above", x.move(4, 0, 0, 0, 1), Due.BEYOND);
        says(x, 1, 90, 3, 4);
    }

    /** Tests the numbers of a SHEET by words(): one of four says of the others what they are. */
    private static void says(RopeShore x, int sheet, int... numbers) {
        x.words(3, sheet);
        for (int of = 0; of < numbers.length && of < 3; of++) {
            Due.is("number " + of + " of SHEET " + sheet, x.tells(3, of, 0), numbers[of]);
        }
    }

    private static void moveWithin() {
        RopeShore x = Due.shore(0, 0, 0, 0);
        Due.sheet(x, 0, 32, 1, 2, 3);
        Due.is("promise 29: to higher places", x.move(0, 0, 0, 1, 2), 2);
        says(x, 0, 1, 1, 2);
        Due.sheet(x, 0, 32, 1, 2, 3);
        Due.is("promise 29: to lower places", x.move(0, 1, 0, 0, 2), 2);
        says(x, 0, 2, 3, 3);
        Due.is("promise 29: of all to the same", x.move(0, 0, 0, 0, 3), 3);
        says(x, 0, 2, 3, 3);
    }

    private static void words() {
        RopeShore x = Due.shore(0, 0, 0);
        Due.sheet(x, 0, 16, 5, 700, 99, 4);
        Due.is("promise 30: oneself's may be any", x.words(1, 0), 3);
        Due.is("promise 30: of 0", x.tells(1, 0, 5), 5);
        Due.is("promise 30: of 2", x.tells(1, 2, 99), 99);
        Due.is("promise 30: up to the first above", x.words(0, 0), 1);
        Due.is("promise 30: no further", x.tells(0, 2, 0), 0);
        Due.sheet(x, 0, 8, 0, 1, -1);
        Due.is("promise 30: up to the first below", x.words(1, 0), 2);
        Due.is("promise 30: of 0 again", x.tells(1, 0, 5), 0);
        Due.is("promise 30: of 2 still", x.tells(1, 2, 99), 99);
        Due.sheet(x, 0, 8, 100, 1, 1);
        Due.is("promise 30: none", x.words(1, 0), 0);
        Due.sheet(x, 0, 32, 7);
        Due.is("promise 30: oneself alone", x.words(0, 0), 1);
        Due.is("promise 30: one", x.words(2, 0), 1);
        Due.is("promise 30: of 1 still", x.tells(2, 1, 0), 0);
        RopeShore eight = Due.shore(0, 0, 0, 0, 0, 0, 0, 0);
        eight.tells(1, 0, 66);
        Due.sheet(eight, 0, 8, 1, 2, 3, 4, 5, 6, 7, 8, 9);
        Due.is("promise 30: no more than PEOPLE", eight.words(0, 0), 8);
        Due.is("promise 30: nobody but one", eight.tells(1, 0, 0), 66);
        Due.is("promise 30: of the last", eight.tells(0, 7, 0), 8);
        Due.is("promise 30: by the last", eight.words(7, 0), 8);
        x.sheet(0, 8, 0);
        Due.is("promise 30: no numbers", x.words(2, 0), 0);
        Due.is("promise 30: no ERROR", x.told(1), 0);
        Due.is("promise 30: missing", x.words(2, 1), Due.NONE);
        Due.is("promise 30: nobody", x.words(3, 1), Due.BEYOND);
        Due.is("promise 30: nobody below", x.words(-1, 0), Due.BEYOND);
        Due.is("promise 30: no such SHEET", x.words(0, 4), Due.BEYOND);
        Due.is("promise 30: no such SHEET below", x.words(0, -1), Due.BEYOND);
    }

    private static void judge() {
        RopeShore x = Due.shore(0, 0, 0);
        x.tells(0, 1, 40);
        x.tells(2, 1, 50);
        x.tells(0, 2, 60);
        Due.sheet(x, 0, 16, 0, 90, 60);
        Due.is("promise 31: all", x.judge(0), 3);
        Due.sheet(x, 0, 16, 0, 91, 60);
        Due.is("promise 31: up to the first wrong one", x.judge(0), 1);
        Due.sheet(x, 0, 16, 1, 90, 60);
        Due.is("promise 31: none", x.judge(0), 0);
        Due.sheet(x, 0, 16, 0, 90, 60, 0);
        Due.is("promise 31: no more than PEOPLE", x.judge(0), 3);
        Due.sheet(x, 0, 16, 0, 90);
        Due.is("promise 31: no more than numbers", x.judge(0), 2);
        x.swim(2, 1);
        Due.is("promise 31: now", x.judge(0), 1);
        Due.is("promise 31: missing", x.judge(1), Due.NONE);
        Due.is("promise 31: no such", x.judge(4), Due.BEYOND);
        Due.is("promise 31: no such below", x.judge(-1), Due.BEYOND);
    }
}
