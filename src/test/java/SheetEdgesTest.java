/**
 * The sentences of the document's chapter 4 of Terms, and of promises 25 to 37, that name a boundary
 * case, one test for each: what stands on each side.
 */
public final class SheetEdgesTest {
    public static void main(String[] args) {
        partedIf0();
        partedIsAll();
        voicesWrap();
        voicesAreAnyNumber();
        traceIsOfTheLatest();
        traceIsWholeUpTo30();
        sheetsAreFour();
        sheetsHaveAtMost24();
        sheetsAreMissing();
        sheetsBeginWith0();
        eightBits();
        sixteenBits();
        thirtyTwoBits();
        movesAsTheyWere();
        movesOfAllAndOfNone();
        wordsFrom0To99();
        wordsOfOneself();
        wordsOfNobody();
        judgedFromTheFirstOn();
        imageOfNothing();
        imageOfAll();
        imageStays();
        imagesAreCounted();
        newOnesBehindAnImage();
        waitingIsAtMost24();
        checkOfNone();
        checkByPlace();
        checkOfNobody();
        toldCountsUpTo511();
        toldOfAnotherK();
        Due.end("SheetEdgesTest");
    }

    // ---- voices

    private static void partedIf0() {
        RopeShore x = Due.shore(0, 0, 0, 0, 0, 0, 0, 0);
        int parted = 0;
        for (int kind = 0; kind < 7; kind++) {
            for (int k = 0; k < 8; k++) {
                x.become(k, kind * 10 + k);
                Due.is("m is k", x.voice(k, 3, 100), Due.PARTED);
                parted++;
                x.become(k, kind * 10 + k + 1);
                int more = x.voice(k, 3, 100);
                Due.is("m is k and 1, KIND " + kind, more - (kind == 1 || kind == 4 ? x.voice(k, 1, 1) : 0), 100);
                if (k > 0) {
                    x.become(k, kind * 10 + k - 1);
                    int less = x.voice(k, 3, 100);
                    Due.is("m is k less 1", less - (kind == 1 || kind == 4 ? x.voice(k, 1, 1) : 0), -100);
                }
            }
        }
        Due.is("they were counted", x.told(6), parted);
        Due.is("and nothing else", x.told(1), 0);
    }

    private static void partedIsAll() {
        for (int kind : new int[] {1, 4}) {
            RopeShore x = Due.shore(kind * 10);
            Due.is("not 2 more than PARTED", x.voice(0, 3, 7), Due.PARTED);
            Due.is("counted once", x.told(6), 1);
            Due.is("BODIES that began", x.count(5), 2);
            Due.is("the first", x.body(0), 21);
            Due.is("the second", x.body(1), 13);
            Due.is("none behind it", x.body(2), Due.NONE);
            Due.is("a voice() behind it", x.voice(0, 1, 7), kind == 1 ? 2 * (7 - 4) : 6 * (7 - 4));
        }
    }

    private static void voicesWrap() {
        RopeShore x = Due.shore(9, 19, 29, 39, 49, 59, 69);
        int max = Due.MAX;
        int min = Due.MIN;
        Due.is("PERSON lets", x.voice(0, 1, max), -2);
        Due.is("PERSON hauls", x.voice(0, 2, 0x40000000), min - 9);
        Due.is("GOSSIP says above", x.voice(1, 0, max), max + 1 - 4);
        Due.is("GOSSIP says below", x.voice(1, 0, min), min + 1 - 4);
        Due.is("MAYOR says", x.voice(2, 0, max - 1), min);
        Due.is("MAYOR lets the least", x.voice(2, 1, 0x40000000 - 2), min);
        Due.is("CUTTER hauls", x.voice(3, 2, max), (max / 2 + 3) * 2 - 9);
        Due.is("CUTTER hauls the least", x.voice(3, 2, min), (min / 2 + 3) * 2 - 9);
        Due.is("DOCTOR says", x.voice(4, 0, max), max * 3);
        Due.is("DOCTOR hauls", x.voice(4, 2, max), (max * 6 - 9) ^ 4);
        Due.is("JUDGE lets", x.voice(5, 1, max), -((min + 5) * 2));
        Due.is("WIDOW says", x.voice(6, 0, max), 9);
        Due.is("WIDOW hauls", x.voice(6, 2, min), 18 + 9 - 9);
        x.become(6, 65);
        Due.is("the least by -1", x.voice(6, 3, min), min);
        Due.is("the most by -1", x.voice(6, 3, max), -max);
        x.become(4, 43);
        int lets = (1 + 4 - 4) * 3 * 2;
        Due.is("DOCTOR parts, and wraps", x.voice(4, 3, min), min + lets);
        x.become(4, 45);
        Due.is("DOCTOR parts, and wraps above", x.voice(4, 3, max), max + lets);
    }

    private static void voicesAreAnyNumber() {
        RopeShore x = Due.shore(0, 20);
        for (int k = 1; k <= 6; k++) {
            Due.is("says what an ERROR is", x.voice(0, 0, Due.LOW - k), Due.LOW - k);
        }
        Due.is("parts to what PARTED is", x.voice(1, 3, 1000000006), Due.PARTED);
        for (int k = 1; k <= 6; k++) {
            Due.is("that is no ERROR " + k, x.told(k), 0);
        }
    }

    private static void traceIsOfTheLatest() {
        RopeShore x = Due.shore(8, 48);
        Due.is("none at first", x.count(5), 0);
        Due.is("no BODY at first", x.body(0), Due.NONE);
        x.voice(1, 3, 5);
        Due.is("six", x.count(5), 6);
        x.voice(0, 0, 5);
        Due.is("one", x.count(5), 1);
        Due.is("it", x.body(0), 10);
        Due.is("none of those ahead", x.body(1), Due.NONE);
        Due.is("none below", x.body(-1), Due.NONE);
        x.voice(1, 4, 5);
        x.voice(2, 0, 5);
        Due.is("of the latest that was one", x.count(5), 1);
        x.become(0, 60);
        x.weather(4);
        Due.is("whatever becomes of one", x.body(0), 10);
    }

    /** The longest of all, six BODIES, is as whole as what 30 hold. */
    private static void traceIsWholeUpTo30() {
        RopeShore x = Due.shore(0, 49);
        int[][] longest = {{50, 20, 10}, {11, 50, 20, 10}, {51, 12, 11, 50, 20, 10}, {21, 13, 11, 50, 20, 10}};
        for (int time = 0; time < 9; time++) {
            for (int voice = 0; voice < 4; voice++) {
                x.voice(1, voice, 5);
                Due.is("BODIES", x.count(5), longest[voice].length);
                for (int i = 0; i < longest[voice].length; i++) {
                    Due.is("BODY " + i + " of voice " + voice, x.body(i), longest[voice][i]);
                }
                Due.is("and no more", x.body(longest[voice].length), Due.NONE);
            }
        }
    }

    // ---- sheets

    /** What 0 says of 1, 2, .. when it takes its words from a SHEET: what its numbers are, if 0 to 99. */
    private static void says(String what, RopeShore x, int sheet, int... numbers) {
        x.words(0, sheet);
        for (int of = 1; of < numbers.length; of++) {
            Due.is(what + ", number " + of, x.rope(0, of), numbers[of]);
        }
    }

    private static RopeShore eight() {
        return Due.shore(0, 0, 0, 0, 0, 0, 0, 0);
    }

    private static void sheetsAreFour() {
        RopeShore x = eight();
        for (int sheet = 0; sheet < 4; sheet++) {
            Due.sheet(x, sheet, 8 << sheet % 3, 0, 10 + sheet, 20 + sheet);
        }
        for (int sheet = 0; sheet < 4; sheet++) {
            says("each has its own", x, sheet, 0, 10 + sheet, 20 + sheet);
        }
        x.sheet(2, 0, 0);
        Due.is("one is missing", x.words(0, 2), Due.NONE);
        says("the one below isn't", x, 1, 0, 11, 21);
        says("the one above isn't", x, 3, 0, 13, 23);
        Due.is("a fifth", x.sheet(4, 8, 1), Due.BEYOND);
    }

    private static void sheetsHaveAtMost24() {
        RopeShore x = new RopeShore();
        for (int n = 0; n <= 24; n++) {
            for (int bits = 8; bits <= 32; bits *= 2) {
                Due.is("n of " + n, x.sheet(0, bits, n), 1);
                Due.is("the last", x.put(0, n - 1, 1), n == 0 ? Due.BEYOND : 1);
                Due.is("one behind it", x.put(0, n, 1), Due.BEYOND);
            }
        }
        Due.is("25", x.sheet(0, 8, 25), Due.BEYOND);
        Due.is("there are 24 still", x.put(0, 23, 1), 1);
        Due.is("of 32 bits still", x.sheet(1, 32, 1), 1);
        Due.is("as that one", x.move(0, 23, 1, 0, 1), 1);
    }

    private static void sheetsAreMissing() {
        RopeShore x = Due.shore(0);
        for (int sheet = 0; sheet < 4; sheet++) {
            Due.is("at first", x.put(sheet, 0, 1), Due.NONE);
            x.sheet(sheet, 16, 0);
            Due.is("of no numbers it is there", x.put(sheet, 0, 1), Due.BEYOND);
            Due.is("and judged", x.judge(sheet), 0);
            Due.is("and moved", x.move(sheet, 0, sheet, 0, 0), 0);
            Due.is("and its words are", x.words(0, sheet), 0);
            for (int n : new int[] {0, -1, 25, Due.MIN, Due.MAX}) {
                Due.is("n doesn't matter", x.sheet(sheet, 0, n), 1);
                Due.is("it is missing", x.put(sheet, 0, 1), Due.NONE);
                Due.is("it can't be judged", x.judge(sheet), Due.NONE);
                Due.is("it doesn't fit", x.fits(sheet), Due.NONE);
                Due.is("it can't be moved", x.move(sheet, 0, sheet, 0, 0), Due.NONE);
            }
        }
        Due.is("below 0 is STATE ahead of BEYOND of n", x.sheet(0, 8, -1), Due.STATE);
        Due.is("above is BEYOND", x.sheet(0, 8, 25), Due.BEYOND);
        Due.is("no bits, ahead of STATE", x.sheet(0, 12, -1), Due.BEYOND);
        Due.is("no SHEET, ahead of STATE", x.sheet(4, 8, -1), Due.BEYOND);
    }

    private static void sheetsBeginWith0() {
        RopeShore x = eight();
        for (int bits = 8; bits <= 32; bits *= 2) {
            Due.sheet(x, 0, bits, 7, 7, 7, 7, 7, 7, 7, 7);
            Due.is("anew", x.sheet(0, bits, 8), 1);
            Due.is("all are 0", x.judge(0), 8);
            Due.sheet(x, 0, bits, 7, 7, 7, 7, 7, 7, 7, 7);
            x.sheet(0, bits, 1);
            x.sheet(0, bits, 8);
            Due.is("all are 0, those between were not there, too", x.judge(0), 8);
            Due.sheet(x, 0, bits, 7, 7, 7, 7, 7, 7, 7, 7);
            x.sheet(0, 0, 0);
            x.sheet(0, bits, 8);
            Due.is("all are 0 behind missing", x.judge(0), 8);
        }
    }

    /** Whether a number put into so many bits is what 0 says of 1 then; -1: it is not 0 to 99. */
    private static int put(int bits, int v) {
        RopeShore x = Due.shore(0, 0);
        x.tells(0, 1, 88);
        x.sheet(0, bits, 2);
        Due.is("put", x.put(0, 1, v), 1);
        return x.words(0, 0) == 2 ? x.rope(0, 1) : -1;
    }

    private static void eightBits() {
        Due.is("99", put(8, 99), 99);
        Due.is("100", put(8, 100), -1);
        Due.is("127", put(8, 127), -1);
        Due.is("128", put(8, 128), -1);
        Due.is("255", put(8, 255), -1);
        Due.is("256", put(8, 256), 0);
        Due.is("257", put(8, 257), 1);
        Due.is("355", put(8, 355), 99);
        Due.is("-1", put(8, -1), -1);
        Due.is("-128", put(8, -128), -1);
        Due.is("-157", put(8, -157), 99);
        Due.is("-256", put(8, -256), 0);
        Due.is("the most", put(8, Due.MAX), -1);
        Due.is("the least", put(8, Due.MIN), 0);
    }

    private static void sixteenBits() {
        Due.is("99", put(16, 99), 99);
        Due.is("256", put(16, 256), -1);
        Due.is("32767", put(16, 32767), -1);
        Due.is("32768", put(16, 32768), -1);
        Due.is("65535", put(16, 65535), -1);
        Due.is("65536", put(16, 65536), 0);
        Due.is("65635", put(16, 65635), 99);
        Due.is("-65437", put(16, -65437), 99);
        Due.is("-1", put(16, -1), -1);
        Due.is("the most", put(16, Due.MAX), -1);
        Due.is("the least", put(16, Due.MIN), 0);
    }

    private static void thirtyTwoBits() {
        Due.is("99", put(32, 99), 99);
        Due.is("256", put(32, 256), -1);
        Due.is("65536", put(32, 65536), -1);
        Due.is("the most", put(32, Due.MAX), -1);
        Due.is("the least", put(32, Due.MIN), -1);
        Due.is("-1", put(32, -1), -1);
    }

    private static void movesAsTheyWere() {
        for (int bits = 8; bits <= 32; bits *= 2) {
            RopeShore x = eight();
            Due.sheet(x, 0, bits, 0, 1, 2, 3, 4, 5, 6, 7);
            Due.is("up by 1", x.move(0, 1, 0, 2, 6), 6);
            says("up by 1", x, 0, 0, 1, 1, 2, 3, 4, 5, 6);
            Due.sheet(x, 0, bits, 0, 1, 2, 3, 4, 5, 6, 7);
            Due.is("down by 1", x.move(0, 2, 0, 1, 6), 6);
            says("down by 1", x, 0, 0, 2, 3, 4, 5, 6, 7, 7);
            Due.is("to themselves", x.move(0, 1, 0, 1, 7), 7);
            says("to themselves", x, 0, 0, 2, 3, 4, 5, 6, 7, 7);
            x.sheet(1, bits, 8);
            Due.is("to another", x.move(0, 1, 1, 2, 6), 6);
            says("to another", x, 1, 0, 0, 2, 3, 4, 5, 6, 7);
            says("they stay", x, 0, 0, 2, 3, 4, 5, 6, 7, 7);
        }
    }

    private static void movesOfAllAndOfNone() {
        RopeShore x = eight();
        x.sheet(0, 8, 24);
        x.sheet(1, 8, 24);
        x.put(0, 23, 55);
        x.put(0, 1, 44);
        Due.is("of 24", x.move(0, 0, 1, 0, 24), 24);
        Due.is("of 25", x.move(0, 0, 1, 0, 25), Due.BEYOND);
        says("the second came", x, 1, 0, 44, 0);
        Due.is("the last to the second", x.move(1, 23, 1, 1, 1), 1);
        says("the last came", x, 1, 0, 55, 0);
        Due.is("the second to the last", x.move(0, 1, 1, 23, 1), 1);
        Due.is("and back", x.move(1, 23, 1, 2, 1), 1);
        says("it went and came", x, 1, 0, 55, 44);
        Due.is("none from the end", x.move(0, 24, 1, 0, 0), 0);
        Due.is("none to the end", x.move(0, 0, 1, 24, 0), 0);
        Due.is("one from the end", x.move(0, 24, 1, 0, 1), Due.BEYOND);
        Due.is("one to the end", x.move(0, 0, 1, 24, 1), Due.BEYOND);
        Due.is("none from behind it", x.move(0, 25, 1, 0, 0), Due.BEYOND);
        Due.is("none to behind it", x.move(0, 0, 1, 25, 0), Due.BEYOND);
        says("all stays", x, 1, 0, 55, 44);
        x.sheet(2, 8, 0);
        Due.is("none to a SHEET of none", x.move(0, 0, 2, 0, 0), 0);
        Due.is("one to a SHEET of none", x.move(0, 0, 2, 0, 1), Due.BEYOND);
        Due.is("one from a SHEET of none", x.move(2, 0, 0, 0, 1), Due.BEYOND);
    }

    private static void wordsFrom0To99() {
        RopeShore x = Due.shore(0, 0, 0, 0);
        Due.sheet(x, 0, 16, 0, 99, 0, 99);
        Due.is("0 and 99", x.words(0, 0), 4);
        Due.is("99 of 1", x.rope(0, 1), 99);
        Due.is("0 of 2", x.rope(0, 2), 0);
        Due.is("99 of 3", x.rope(0, 3), 99);
        for (int not : new int[] {100, -1, 32767, -32768}) {
            for (int place = 1; place < 4; place++) {
                Due.sheet(x, 0, 16, 0, 10, 10, 10);
                x.words(0, 0);
                Due.sheet(x, 0, 16, 0, 20, 20, 20);
                x.put(0, place, not);
                Due.is("up to " + place, x.words(0, 0), place);
                for (int of = 1; of < 4; of++) {
                    Due.is("of " + of, x.rope(0, of), of < place ? 20 : 10);
                }
            }
        }
        for (int k = 1; k <= 6; k++) {
            Due.is("that is no ERROR", x.told(k), 0);
        }
    }

    private static void wordsOfOneself() {
        RopeShore x = Due.shore(0, 0, 0);
        for (int any : new int[] {Due.MIN, -1, 0, 50, 99, 100, Due.MAX}) {
            for (int one = 0; one < 3; one++) {
                Due.sheet(x, 0, 32, 30 + one, 40 + one, 50 + one);
                x.put(0, one, any);
                Due.is("oneself's may be any", x.words(one, 0), 3);
                for (int of = 0; of < 3; of++) {
                    Due.is("of " + of, x.rope(one, of), of == one ? Due.BEYOND : 30 + 10 * of + one);
                }
            }
            Due.is("oneself counts for nothing", x.personIs(0, 4), 31 + 32);
        }
        Due.sheet(x, 0, 8, 100);
        Due.is("oneself alone", x.words(0, 0), 1);
        Due.is("not oneself", x.words(1, 0), 0);
    }

    private static void wordsOfNobody() {
        RopeShore x = Due.shore(0, 0);
        x.sheet(0, 8, 24);
        Due.is("nobody from 2 on", x.words(0, 0), 2);
        x.person(0);
        Due.is("nobody from 3 on", x.words(0, 0), 3);
        for (int i = 3; i < 8; i++) {
            x.person(0);
        }
        Due.is("nobody from 8 on", x.words(7, 0), 8);
        x.sheet(0, 8, 1);
        Due.is("no more numbers", x.words(7, 0), 1);
        x.sheet(0, 8, 0);
        Due.is("no numbers", x.words(7, 0), 0);
        Due.is("no ERROR", x.told(1) + x.told(2), 0);
    }

    private static void judgedFromTheFirstOn() {
        RopeShore x = Due.shore(0, 0, 0, 0);
        for (int of = 1; of < 4; of++) {
            x.tells(0, of, 10 * of);
        }
        for (int place = 0; place < 4; place++) {
            for (int by = -1; by <= 1; by++) {
                Due.sheet(x, 0, 8, 0, 10, 20, 30);
                x.put(0, place, 10 * place + by);
                Due.is("right up to " + place, x.judge(0), by == 0 ? 4 : place);
            }
        }
        Due.sheet(x, 0, 8, 0, 10, 20, 30, 0);
        Due.is("nobody is the fifth", x.judge(0), 4);
        RopeShore none = new RopeShore();
        none.sheet(0, 8, 24);
        Due.is("of nobody", none.judge(0), 0);
        RopeShore y = Due.shore(0, 0, 0);
        Due.text(y, 0, "64-t");
        Due.sheet(y, 0, 8, 128);
        Due.is("128 is not in 8 bits", y.judge(0), 0);
        Due.sheet(y, 0, 16, 128);
        Due.is("128 is in 16 bits", y.judge(0), 1);
        y.tells(1, 0, 1);
        Due.sheet(y, 0, 8, 127);
        Due.is("127 is in 8 bits", y.judge(0), 1);
    }

    // ---- images

    private static void imageOfNothing() {
        RopeShore x = new RopeShore();
        Due.is("no IMAGE", x.restore(), Due.NONE);
        Due.is("an IMAGE", x.image(), 1);
        x.person(33);
        x.person(4);
        x.tells(0, 1, 66);
        x.swim(1, 77);
        x.days(9);
        x.weather(8);
        x.seed(44);
        Due.text(x, 0, "5");
        Due.text(x, 1, "6");
        Due.feed(x, "777");
        x.tell(8);
        Due.is("restored to DAY", x.restore(), 0);
        int[] first = {0, 0, 0, 0, 0, 0, 1};
        for (int what = 0; what < 7; what++) {
            Due.is("count(" + what + ")", x.count(what), first[what]);
        }
        Due.is("no TEXT of ROPE", x.untell(0), 0);
        Due.is("no TEXT of CHANGE", x.untell(1), 0);
        Due.is("nobody", x.personIs(0, 0), Due.BEYOND);
        Due.is("nothing waits", x.check(), 0);
        Due.is("nothing stands on THE TAPE", x.text(0), -10);
    }

    private static void imageOfAll() {
        RopeShore x = Twins.full();
        RopeShore y = Twins.full();
        Due.is("an IMAGE", x.image(), 1);
        for (int i = 0; i < 8; i++) {
            x.saves(i);
            x.become(i, 60 - i);
            x.tells(i, (i + 1) % 8, 1);
        }
        x.weather(1);
        x.check();
        x.tell(4);
        x.text(0);
        x.seed(6);
        Due.is("restored to DAY", x.restore(), 9999);
        for (int i = 0; i < 8; i++) {
            for (int what = 0; what <= 4; what++) {
                Due.is("of " + i + ", " + what, x.personIs(i, what), y.personIs(i, what));
            }
            Due.is("says", x.tells(i, (i + 1) % 8, 2), y.tells(i, (i + 1) % 8, 2));
        }
        for (int what = 0; what <= 6; what++) {
            Due.is("count(" + what + ")", x.count(what), y.count(what));
        }
        Due.is("no TEXT", x.untell(0), 0);
        Due.is("60 bytes", x.text(0), 1);
        Due.is("they give", x.law(0, 0, 0, 0), 44);
        Due.is("the ninth of 24 waits for nobody", x.check(), 9);
    }

    private static void imageStays() {
        RopeShore x = Due.shore(5, 6);
        x.days(3);
        x.image();
        for (int time = 0; time < 5; time++) {
            x.days(10);
            x.person(1);
            x.tells(0, 1, 9);
            x.weather(4);
            Due.is("DAY", x.restore(), 3);
            Due.is("at once again", x.restore(), 3);
            Due.is("PEOPLE", x.count(0), 2);
            Due.is("SEA", x.count(1), 0);
            Due.is("TOLD", x.tells(0, 1, 0), 0);
        }
        x.days(1);
        Due.is("in place of the one ahead", x.image(), 2);
        x.days(1);
        Due.is("that DAY", x.restore(), 4);
    }

    private static void imagesAreCounted() {
        RopeShore x = new RopeShore();
        for (int i = 1; i <= 250; i++) {
            Due.is("how often", x.image(), i);
            Due.is("DAY", x.restore(), 0);
        }
        Due.is("restore() doesn't take it back", x.image(), 251);
    }

    private static void newOnesBehindAnImage() {
        RopeShore x = Due.shore(0);
        x.image();
        for (int i = 1; i < 8; i++) {
            x.person(69);
            x.tells(i, 0, 99);
            x.tells(0, i, 98);
            x.swim(i, 500);
        }
        x.days(1);
        Due.is("a ninth", x.person(0), Due.FULL);
        x.restore();
        for (int i = 1; i < 8; i++) {
            Due.is("one more", x.person(1), i);
            int[] first = {0, 1, 0, 0, 0};
            for (int what = 0; what <= 4; what++) {
                Due.is("as at first", x.personIs(i, what), first[what]);
            }
            Due.is("says 0", x.tells(i, 0, 0), 0);
            Due.is("is said 0", x.tells(0, i, 0), 0);
        }
        Due.is("a ninth again", x.person(0), Due.FULL);
    }

    // ---- what waits, what is told

    private static void waitingIsAtMost24() {
        RopeShore x = new RopeShore();
        for (int i = 1; i <= 24; i++) {
            Due.is("waits", x.tell(i % 2 == 0 ? Due.MIN : Due.MAX), i);
            Due.is("counted", x.count(4), i);
        }
        Due.is("a 25th", x.tell(0), Due.FULL);
        Due.is("a 25th again", x.tell(0), Due.FULL);
        Due.is("24 wait", x.count(4), 24);
        Due.is("for nobody", x.check(), 1);
        Due.is("none waits", x.count(4), 0);
        for (int i = 1; i <= 24; i++) {
            Due.is("waits again", x.tell(0), i);
        }
        Due.is("a 25th of these", x.tell(0), Due.FULL);
        Due.is("FULL", x.told(4), 3);
    }

    private static void checkOfNone() {
        RopeShore x = new RopeShore();
        Due.is("none, of nobody", x.check(), 0);
        x.person(0);
        x.swim(0, 9);
        Due.is("none, of one who is OUT", x.check(), 0);
        x.tell(9);
        Due.is("one", x.check(), 0);
        Due.is("none any more", x.check(), 0);
    }

    private static void checkByPlace() {
        RopeShore x = eight();
        for (int i = 0; i < 8; i++) {
            x.swim(i, i == 7 ? 500 : i * 10);
        }
        x.days(1);
        for (int wrong = 0; wrong <= 8; wrong++) {
            for (int i = 0; i < 8; i++) {
                int out = i == 7 ? 500 : i * 10;
                Due.is("waits", x.tell(i < wrong ? out : out - 1), i + 1);
            }
            Due.is("the first that isn't so", x.check(), wrong < 8 ? 1 + wrong : 0);
            Due.is("none waits then", x.count(4), 0);
        }
    }

    private static void checkOfNobody() {
        RopeShore x = new RopeShore();
        x.tell(0);
        Due.is("nobody at place 0", x.check(), 1);
        for (int people = 1; people <= 8; people++) {
            x.person(0);
            for (int i = 0; i <= people; i++) {
                x.tell(0);
            }
            Due.is("nobody at place " + people, x.check(), 1 + people);
        }
        for (int i = 0; i < 24; i++) {
            x.tell(0);
        }
        Due.is("24 of eight", x.check(), 9);
        Due.is("no ERROR", x.told(1) + x.told(2) + x.told(3) + x.told(4), 0);
    }

    private static void toldCountsUpTo511() {
        RopeShore x = new RopeShore();
        for (int i = 0; i < 511; i++) {
            Due.is("another one", x.body(0), Due.NONE);
        }
        Due.is("all of them", x.told(2), 511);
    }

    private static void toldOfAnotherK() {
        RopeShore x = new RopeShore();
        int counted = 0;
        for (int k : new int[] {0, 7, -1, 8, Due.MIN, Due.MAX, Due.BEYOND}) {
            Due.is("k of " + k, x.told(k), Due.BEYOND);
            counted++;
            Due.is("counted, too", x.told(1), counted);
        }
        for (int k = 2; k <= 6; k++) {
            Due.is("k of " + k, x.told(k), 0);
        }
    }
}
