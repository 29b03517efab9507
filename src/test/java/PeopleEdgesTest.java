/**
 * The sentences at the head of the document's Terms and of its chapter 1 that name a boundary case, in
 * their order, one test for each: what stands on each side. RefusedTest has the calls' arguments.
 */
public final class PeopleEdgesTest {
    public static void main(String[] args) {
        errorsAreBelowLow();
        quotientsAreCut();
        peopleAreAtMostEight();
        mIsFrom0To9();
        outAndToldAndSeaAreTaken();
        ashoreIsOut0();
        gossipAndDoctorAdd();
        mayorsHalfIsCut();
        cutterBelow10AndM();
        judgeLessM();
        widowAbove50();
        turnsByOutAbove0();
        gossipTurnsByTheRestBy3();
        judgeTurnsBelow20();
        ropeByAllOthers();
        lostAboveRope();
        lostNotByOut0();
        lostOnlyOnce();
        lostAllAtOnce();
        lostAheadOfChange();
        toldIsHeld();
        dayIs1MoreLast();
        drawsOfNobody();
        drawnSeaAndSwimmer();
        drawnButLost();
        drawsThatWrap();
        Due.end("PeopleEdgesTest");
    }

    private static void errorsAreBelowLow() {
        RopeShore x = Due.shore(0, 0);
        Due.is("BEYOND", x.person(70), -1000000001);
        Due.is("NONE", x.restore(), -1000000002);
        Due.is("STATE", x.sheet(0, 8, -1), -1000000003);
        for (int i = 0; i < 24; i++) {
            x.tell(0);
        }
        Due.is("FULL", x.tell(0), -1000000004);
        Due.is("KIND", x.as(0, 1), -1000000005);
        Due.is("PARTED", x.voice(0, 3, 1), -1000000006);
        for (int k = 1; k <= 6; k++) {
            Due.is("told(" + k + ")", x.told(k), 1);
        }
    }

    private static void quotientsAreCut() {
        RopeShore x = Due.shore(2, 0, 0, 0, 30);
        Due.is("9 by 2", x.voice(0, 3, 9), 4);
        Due.is("-9 by 2", x.voice(0, 3, -9), -4);
        Due.is("9 by -2", x.voice(2, 3, 9), -4);
        Due.is("-9 by -2", x.voice(2, 3, -9), 4);
        Due.is("-1 by 2", x.voice(0, 3, -1), 0);
        Due.is("half of -7", x.voice(4, 2, -7), 2 * (-3 + 4));
        Due.is("half of -1", x.voice(4, 2, -1), 2 * 4);
        Due.text(x, 1, "c/l");
        Due.is("7 by -2", x.law(1, 7, -2, 0), -3);
        Due.is("-7 by 2", x.law(1, -7, 2, 0), -3);
        Due.is("-7 by -2", x.law(1, -7, -2, 0), 3);
        Due.text(x, 1, "c%l");
        Due.is("the rest of 7 by -2", x.law(1, 7, -2, 0), 1);
        Due.is("the rest of -7 by 2", x.law(1, -7, 2, 0), -1);
        Due.is("the rest of -7 by -2", x.law(1, -7, -2, 0), -1);
    }

    private static void peopleAreAtMostEight() {
        RopeShore x = new RopeShore();
        Due.is("none", x.count(0), 0);
        for (int i = 0; i < 8; i++) {
            Due.is("nobody yet", x.personIs(i, 1), Due.BEYOND);
            Due.is("one more", x.person(i), i);
            Due.is("is there", x.personIs(i, 1), i);
        }
        Due.is("a ninth", x.person(0), Due.FULL);
        Due.is("no ninth", x.personIs(8, 1), Due.BEYOND);
        Due.is("the eighth says of the first", x.tells(7, 0, 99), 0);
        Due.is("the first says of the eighth", x.tells(0, 7, 98), 0);
        Due.is("ROPE of the first", x.personIs(0, 4), 99);
        Due.is("ROPE of the eighth", x.personIs(7, 4), 98);
    }

    private static void mIsFrom0To9() {
        for (int kind = 0; kind < 7; kind++) {
            RopeShore x = Due.shore(kind * 10, kind * 10 + 9);
            for (int i = 0; i < 2; i++) {
                Due.is("KIND of " + kind, x.personIs(i, 0), kind);
                Due.is("m of " + kind, x.personIs(i, 1), 9 * i);
                Due.is("becomes a WIDOW", x.become(i, 69 - i * 9), kind);
                Due.is("becomes it again", x.become(i, kind * 10 + 9 - 9 * i), 6);
                Due.is("m then", x.personIs(i, 1), 9 - 9 * i);
            }
        }
    }

    private static void outAndToldAndSeaAreTaken() {
        RopeShore x = Due.shore(0, 0);
        Due.is("OUT 500", x.swim(0, 500), 0);
        Due.is("is OUT 500", x.personIs(0, 2), 500);
        Due.is("OUT 0", x.swim(0, 0), 500);
        Due.is("is OUT 0", x.personIs(0, 2), 0);
        Due.is("TOLD 99", x.tells(0, 1, 99), 0);
        Due.is("gives 99", x.rope(0, 1), 99);
        Due.is("TOLD 0", x.tells(0, 1, 0), 99);
        Due.is("gives 0", x.rope(0, 1), 0);
        Due.is("SEA 9", x.weather(9), 0);
        Due.is("is SEA 9", x.count(1), 9);
        Due.is("SEA 0", x.weather(0), 9);
        Due.is("is SEA 0", x.count(1), 0);
    }

    private static void ashoreIsOut0() {
        RopeShore x = Due.shore(0, 0);
        x.tells(0, 1, 60);
        Due.is("OUT 0", x.personIs(1, 4), 60);
        x.swim(0, 1);
        Due.is("OUT 1", x.personIs(1, 4), 0);
        Due.is("were one ASHORE", x.rope(0, 1), 60);
        x.days(1);
        Due.is("LOST", x.personIs(0, 3), 1);
        Due.is("by the LOST", x.personIs(1, 4), 0);
        x.saves(0);
        Due.is("ASHORE again", x.personIs(1, 4), 59);
    }

    /** ROPE by one of a KIND for another one who is OUT so far. */
    private static int rope(int km, int said, int sea, int out) {
        RopeShore x = Due.shore(km, 0);
        x.weather(sea);
        x.tells(0, 1, said);
        x.swim(1, out);
        return x.rope(0, 1);
    }

    private static void gossipAndDoctorAdd() {
        Due.is("a GOSSIP's least", rope(10, 0, 9, 0), 0);
        Due.is("a GOSSIP's most", rope(19, 99, 9, 500), 108);
        Due.is("a DOCTOR's least", rope(40, 0, 0, 0), 0);
        Due.is("a DOCTOR's most", rope(49, 99, 9, 500), 117);
    }

    private static void mayorsHalfIsCut() {
        int[] said = {0, 1, 2, 3, 98, 99};
        int[] half = {0, 0, 1, 1, 49, 49};
        for (int i = 0; i < said.length; i++) {
            Due.is("a MAYOR's half of " + said[i], rope(29, said[i], 9, 51), half[i] + 10);
        }
    }

    private static void cutterBelow10AndM() {
        for (int m = 0; m <= 9; m++) {
            Due.is("a CUTTER's, at 10 and " + m, rope(30 + m, 10 + m, 0, 0), 10 + m);
            Due.is("a CUTTER's, below it", rope(30 + m, 9 + m, 0, 0), 0);
        }
        Due.is("a CUTTER's least", rope(30, 0, 9, 500), 0);
        Due.is("a CUTTER's most", rope(39, 99, 9, 500), 99);
    }

    private static void judgeLessM() {
        Due.is("a JUDGE's least", rope(59, 0, 9, 0), 1);
        Due.is("a JUDGE's half is cut first", rope(59, 1, 9, 0), 1);
        Due.is("a JUDGE's most", rope(50, 99, 9, 500), 59);
    }

    private static void widowAbove50() {
        Due.is("a WIDOW's at 50", rope(69, 99, 9, 50), 99);
        Due.is("a WIDOW's at 51", rope(69, 99, 9, 51), 198);
        Due.is("a WIDOW's at 500", rope(60, 99, 0, 500), 198);
        Due.is("a WIDOW's at 0", rope(60, 99, 0, 0), 99);
        Due.is("twice 0", rope(60, 0, 0, 51), 0);
    }

    /** What one of a KIND says of one who is OUT so far, more than before, when DAY d has gone by. */
    private static int turn(int km, int said, int out, int d) {
        RopeShore x = new RopeShore();
        for (int left = d; left > 0; left -= 60) {
            x.days(Math.min(60, left));
        }
        x.person(km);
        x.person(0);
        x.tells(0, 1, said);
        x.swim(1, out);
        x.days(1);
        return x.tells(0, 1, 0) - said;
    }

    private static void turnsByOutAbove0() {
        int[] ashore = {-1, -1, 0, -1, -2, -2, -2};
        int[] atSea = {1, 1, 0, 1, 0, -2, 2};
        for (int kind = 0; kind < 7; kind++) {
            Due.is("KIND " + kind + ", OUT 0", turn(kind * 10 + 5, 50, 0, 0), ashore[kind]);
            for (int out : new int[] {1, 50, 51, 500}) {
                Due.is("KIND " + kind + ", OUT " + out, turn(kind * 10 + 5, 50, out, 0), atSea[kind]);
            }
        }
        RopeShore x = Due.shore(0, 0);
        x.tells(0, 1, 50);
        x.swim(1, 500);
        x.days(5);
        Due.is("of the LOST, who are OUT", x.tells(0, 1, 0), 55);
    }

    private static void gossipTurnsByTheRestBy3() {
        for (int d : new int[] {0, 1, 2, 3, 4, 5, 6, 59, 60, 9998}) {
            Due.is("a GOSSIP on DAY " + d, turn(10, 50, 1, d), 1 + d % 3);
            Due.is("a GOSSIP on DAY " + d + ", of one ASHORE", turn(19, 50, 0, d), d % 3 - 1);
            Due.is("a DOCTOR on DAY " + d, turn(40, 50, 1, d), d % 3);
        }
    }

    private static void judgeTurnsBelow20() {
        Due.is("a JUDGE at 19", turn(50, 19, 0, 1), 2);
        Due.is("a JUDGE at 20", turn(50, 20, 0, 1), -2);
        Due.is("a JUDGE at 0", turn(50, 0, 1, 1), 2);
        Due.is("a JUDGE at 99", turn(50, 99, 1, 1), -2);
    }

    private static void ropeByAllOthers() {
        RopeShore x = new RopeShore();
        x.person(9);
        Due.is("nobody else", x.personIs(0, 4), 0);
        Due.text(x, 0, "199");
        Due.is("nobody else, with a TEXT", x.personIs(0, 4), 0);
        for (int others = 1; others < 8; others++) {
            x.person(others);
            Due.is("by " + others, x.personIs(0, 4), 199 * others);
            Due.is("by " + others + " for the last", x.personIs(others, 4), 199 * others);
        }
        for (int out = 1; out < 8; out++) {
            x.swim(out, 1);
            Due.is("by all but " + out, x.personIs(0, 4), 199 * (7 - out));
            Due.is("for one who is OUT", x.personIs(1, 4), 199 * (8 - out));
        }
    }

    /** How many get LOST in a DAY of that SEA: one is OUT so far, and another one gives so much ROPE. */
    private static int lost(int out, int sea, int rope) {
        RopeShore x = Due.shore(0, 0, 0, 0);
        Due.text(x, 0, "t*2+t/99");
        int left = rope;
        for (int i = 1; i < 4; i++) {
            int said = Math.min(99, left / 2);
            x.tells(i, 0, said);
            left -= said == 99 ? 199 : said * 2;
        }
        x.weather(sea);
        x.swim(0, out);
        Due.is("ROPE", x.personIs(0, 4), rope);
        int gone = x.days(1);
        Due.is("LOST, or not", x.personIs(0, 3), gone);
        Due.is("OUT stays", x.personIs(0, 2), out);
        return gone;
    }

    private static void lostAboveRope() {
        Due.is("OUT 60 by 60", lost(60, 0, 60), 0);
        Due.is("OUT 61 by 60", lost(61, 0, 60), 1);
        Due.is("OUT 1 by 0", lost(1, 0, 0), 1);
        Due.is("OUT 1 by 2", lost(1, 0, 2), 0);
        for (int sea = 1; sea <= 9; sea++) {
            Due.is("OUT 50, SEA " + sea, lost(100 - 5 * sea, sea, 100), 0);
            Due.is("OUT 51, SEA " + sea, lost(101 - 5 * sea, sea, 100), 1);
        }
        Due.is("OUT 500 by 500", lost(500, 0, 199 + 199 + 102), 0);
        Due.is("OUT 500 by 498", lost(500, 0, 199 + 199 + 100), 1);
        Due.is("OUT 500, SEA 9, by 546", lost(500, 9, 199 + 199 + 148), 0);
        Due.is("OUT 500, SEA 9, by 544", lost(500, 9, 199 + 199 + 146), 1);
    }

    private static void lostNotByOut0() {
        RopeShore x = Due.shore(0, 30);
        x.weather(9);
        Due.is("OUT 0, SEA 9, no ROPE", x.days(60), 0);
        x.swim(1, 1);
        Due.is("OUT 1", x.days(1), 1);
    }

    private static void lostOnlyOnce() {
        RopeShore x = Due.shore(0, 0);
        x.swim(0, 500);
        Due.is("gets LOST", x.days(1), 1);
        Due.is("is LOST", x.days(60), 0);
        x.saves(0);
        Due.is("is ASHORE", x.days(1), 0);
        x.swim(0, 500);
        Due.is("gets LOST again, once in 60 DAYS", x.days(60), 1);
    }

    private static void lostAllAtOnce() {
        RopeShore x = Due.shore(0, 10, 20, 30, 40, 50, 60, 9);
        for (int i = 0; i < 8; i++) {
            x.swim(i, 1);
        }
        Due.is("all eight", x.days(1), 8);
        for (int i = 0; i < 8; i++) {
            Due.is("LOST", x.personIs(i, 3), 1);
        }
    }

    private static void lostAheadOfChange() {
        RopeShore x = Due.shore(0, 0);
        x.tells(1, 0, 40);
        x.swim(0, 41);
        Due.is("the word that is more comes too late", x.days(1), 1);
        Due.is("and comes", x.tells(1, 0, 40), 41);
        x.saves(0);
        Due.text(x, 1, "0-9");
        x.swim(0, 40);
        Due.is("the word that is less comes behind", x.days(1), 0);
        Due.is("and is less in the next DAY", x.days(1), 1);
        Due.is("by 9 each", x.tells(1, 0, 0), 22);
    }

    /** What one says of another one, when it was so much and CHANGE is that. */
    private static int changed(int said, String change) {
        RopeShore x = Due.shore(0, 0);
        x.tells(0, 1, said);
        Due.text(x, 1, change);
        x.days(1);
        return x.tells(0, 1, 0);
    }

    private static void toldIsHeld() {
        Due.is("90 and 9", changed(90, "9"), 99);
        Due.is("91 and 9", changed(91, "9"), 99);
        Due.is("99 and 1", changed(99, "1"), 99);
        Due.is("98 and 1", changed(98, "1"), 99);
        Due.is("89 and 9", changed(89, "9"), 98);
        Due.is("9 less 9", changed(9, "0-9"), 0);
        Due.is("8 less 9", changed(8, "0-9"), 0);
        Due.is("0 less 1", changed(0, "0-1"), 0);
        Due.is("10 less 9", changed(10, "0-9"), 1);
        Due.is("CHANGE is held first: 50 and 10", changed(50, "10"), 59);
        Due.is("CHANGE is held first: 50 less 10", changed(50, "0-10"), 41);
    }

    private static void dayIs1MoreLast() {
        RopeShore x = Due.shore(0, 0);
        Due.text(x, 1, "d");
        x.tells(0, 1, 50);
        int due = 50;
        for (int d = 0; d < 9; d++) {
            due += d % 7;
            Due.is("DAY", x.count(2), d);
            x.days(1);
            Due.is("d of DAY " + d, x.rope(0, 1), due);
        }
        Due.is("DAY", x.count(2), 9);
    }

    private static int drawn(int z) {
        return z * 1103515245 + 12345;
    }

    private static void drawsOfNobody() {
        RopeShore x = new RopeShore();
        x.loose(1);
        Due.is("one draw", x.count(6), drawn(1));
        x.person(0);
        x.loose(1);
        Due.is("three draws", x.count(6), drawn(drawn(drawn(drawn(1)))));
        Due.is("two DAYS", x.count(2), 2);
    }

    /** Seeds by which the least and the most is drawn of each: SEA 0 and 9, the first and the last, 0 and 59. */
    private static void drawnSeaAndSwimmer() {
        int[] met = new int[6];
        for (int seed = 0; seed < 3000; seed++) {
            int sea = (drawn(seed) >>> 8) % 10;
            int swimmer = (drawn(drawn(seed)) >>> 8) % 3;
            int far = (drawn(drawn(drawn(seed))) >>> 8) % 60;
            boolean[] edges = {sea == 0, sea == 9, swimmer == 0, swimmer == 2, far == 0, far == 59};
            boolean asked = false;
            for (int i = 0; i < edges.length; i++) {
                asked = asked || edges[i] && met[i] < 3;
                met[i] += edges[i] ? 1 : 0;
            }
            if (asked) {
                RopeShore x = Due.shore(0, 0, 0);
                x.seed(seed);
                x.loose(1);
                Due.is("SEA by " + seed, x.count(1), sea);
                for (int i = 0; i < 3; i++) {
                    Due.is("OUT of " + i + " by " + seed, x.personIs(i, 2), i == swimmer ? far : 0);
                    Due.is("LOST of " + i, x.personIs(i, 3), i == swimmer && far > 0 ? 1 : 0);
                }
            }
        }
        for (int times : met) {
            Due.holds("each was drawn", times > 2);
        }
    }

    private static void drawnButLost() {
        RopeShore x = Due.shore(0);
        x.swim(0, 400);
        x.days(1);
        for (int time = 0; time < 20; time++) {
            Due.is("nobody more gets LOST", x.loose(1), 0);
            Due.is("the LOST are OUT as they were", x.personIs(0, 2), 400);
        }
        int z = 1;
        for (int draw = 0; draw < 60; draw++) {
            z = drawn(z);
        }
        Due.is("three draws each, all the same", x.count(6), z);
        RopeShore y = Due.shore(0, 0);
        y.tells(1, 0, 99);
        y.swim(0, 40);
        y.seed(7);
        int swimmer = (drawn(drawn(7)) >>> 8) % 2;
        int far = (drawn(drawn(drawn(7))) >>> 8) % 60;
        y.loose(1);
        Due.is("who is OUT, and not LOST, is OUT anew", y.personIs(swimmer, 2), far);
    }

    private static void drawsThatWrap() {
        for (int z : new int[] {Due.MIN, -1, 0, Due.MAX, -12345, 0x40000000}) {
            RopeShore x = new RopeShore();
            x.seed(z);
            x.loose(1);
            Due.is("z behind " + z, x.count(6), (int) (z * 1103515245L + 12345));
            Due.is("SEA behind " + z, x.count(1), (z * 1103515245L + 12345 & 0xffffffffL) / 256 % 10);
        }
    }
}
