/** Promises 1 to 10: a new object, PEOPLE, what they say, ROPES, who is OUT, SEA. */
public final class PeopleTest {
    private static final int[] ABOVE = {-1, 0, 0, 0, 1, 2, 0};

    public static void main(String[] args) {
        newObject();
        person();
        personIs();
        become();
        as();
        tells();
        ropeByKinds();
        ropeTogether();
        swim();
        saves();
        weather();
        Due.end("PeopleTest");
    }

    private static void newObject() {
        RopeShore x = new RopeShore();
        int[] first = {0, 0, 0, 0, 0, 0, 1};
        for (int what = 0; what < first.length; what++) {
            Due.is("promise 1: count(" + what + ")", x.count(what), first[what]);
        }
        for (int k = 1; k <= 6; k++) {
            Due.is("promise 1: told(" + k + ")", x.told(k), 0);
        }
        Due.is("promise 1: nobody", x.personIs(0, 0), Due.BEYOND);
        Due.is("promise 1: no TEXT 0", x.untell(0), 0);
        Due.is("promise 1: no TEXT 1", x.untell(1), 0);
        Due.is("promise 1: no IMAGE", x.restore(), Due.NONE);
        Due.is("promise 1: no TRACE", x.body(0), Due.NONE);
        for (int sheet = 0; sheet < 4; sheet++) {
            Due.is("promise 1: no SHEET", x.judge(sheet), Due.NONE);
        }
    }

    private static void person() {
        RopeShore x = new RopeShore();
        Due.is("promise 2: below", x.person(-1), Due.BEYOND);
        Due.is("promise 2: above", x.person(70), Due.BEYOND);
        Due.is("promise 2: least", x.person(Due.MIN), Due.BEYOND);
        int[] kms = {0, 69, 15, 28, 37, 41, 52, 66};
        for (int i = 0; i < kms.length; i++) {
            Due.is("promise 2: person(" + kms[i] + ")", x.person(kms[i]), i);
            Due.is("promise 2: KIND", x.personIs(i, 0), kms[i] / 10);
            Due.is("promise 2: m", x.personIs(i, 1), kms[i] % 10);
            Due.is("promise 2: OUT", x.personIs(i, 2), 0);
            Due.is("promise 2: LOST", x.personIs(i, 3), 0);
        }
        Due.is("promise 2: a ninth", x.person(0), Due.FULL);
        Due.is("promise 2: a ninth of no KIND", x.person(70), Due.BEYOND);
        Due.is("promise 2: still eight", x.count(0), 8);
    }

    private static void personIs() {
        RopeShore x = Due.shore(64, 13);
        x.tells(0, 1, 20);
        x.swim(1, 51);
        Due.is("promise 3: KIND", x.personIs(0, 0), 6);
        Due.is("promise 3: m", x.personIs(0, 1), 4);
        Due.is("promise 3: OUT", x.personIs(1, 2), 51);
        Due.is("promise 3: ROPE", x.personIs(1, 4), 40);
        Due.is("promise 3: ROPE by one who is OUT", x.personIs(0, 4), 0);
        x.days(1);
        Due.is("promise 3: LOST", x.personIs(1, 3), 1);
        Due.is("promise 3: OUT stays", x.personIs(1, 2), 51);
        Due.is("promise 3: what below", x.personIs(0, -1), Due.BEYOND);
        Due.is("promise 3: what above", x.personIs(0, 5), Due.BEYOND);
        Due.is("promise 3: nobody below", x.personIs(-1, 0), Due.BEYOND);
        Due.is("promise 3: nobody above", x.personIs(2, 0), Due.BEYOND);
    }

    private static void become() {
        RopeShore x = Due.shore(35, 2);
        x.tells(0, 1, 14);
        x.swim(1, 7);
        Due.is("promise 4: a CUTTER gives none", x.rope(0, 1), 0);
        Due.is("promise 4: was CUTTER", x.become(0, 69), 3);
        Due.is("promise 4: is WIDOW", x.personIs(0, 0), 6);
        Due.is("promise 4: of m", x.personIs(0, 1), 9);
        Due.is("promise 4: gives as one", x.rope(0, 1), 14);
        Due.is("promise 4: was WIDOW", x.become(0, 0), 6);
        x.become(1, 48);
        Due.is("promise 4: OUT stays", x.personIs(1, 2), 7);
        Due.is("promise 4: below", x.become(0, -1), Due.BEYOND);
        Due.is("promise 4: above", x.become(0, 70), Due.BEYOND);
        Due.is("promise 4: nobody", x.become(2, 0), Due.BEYOND);
        Due.is("promise 4: nobody below", x.become(-1, 0), Due.BEYOND);
        Due.is("promise 4: no more of them", x.count(0), 2);
    }

    private static void as() {
        for (int kind = 0; kind < 7; kind++) {
            RopeShore x = Due.shore(kind * 10 + 3);
            for (int above = 0; above < 7; above++) {
                boolean is = above == kind || above == ABOVE[kind] || above == 0;
                Due.is("promise 5: " + kind + " as " + above, x.as(0, above), is ? 3 : Due.KIND);
            }
            Due.is("promise 5: no KIND below", x.as(0, -1), Due.BEYOND);
            Due.is("promise 5: no KIND above", x.as(0, 7), Due.BEYOND);
            Due.is("promise 5: nobody", x.as(1, 0), Due.BEYOND);
            Due.is("promise 5: nobody below", x.as(-1, 0), Due.BEYOND);
        }
    }

    private static void tells() {
        RopeShore x = Due.shore(0, 0, 0);
        Due.is("promise 6: at first", x.tells(0, 1, 99), 0);
        Due.is("promise 6: what it was", x.tells(0, 1, 0), 99);
        Due.is("promise 6: again", x.tells(0, 1, 42), 0);
        Due.is("promise 6: the other way", x.tells(1, 0, 7), 0);
        Due.is("promise 6: above", x.tells(0, 1, 100), Due.BEYOND);
        Due.is("promise 6: below", x.tells(0, 1, -1), Due.BEYOND);
        Due.is("promise 6: of oneself", x.tells(1, 1, 5), Due.BEYOND);
        Due.is("promise 6: of nobody", x.tells(0, 3, 5), Due.BEYOND);
        Due.is("promise 6: of nobody below", x.tells(0, -1, 5), Due.BEYOND);
        Due.is("promise 6: by nobody", x.tells(3, 0, 5), Due.BEYOND);
        Due.is("promise 6: by nobody below", x.tells(-1, 0, 5), Due.BEYOND);
        Due.is("promise 6: stays", x.tells(0, 1, 42), 42);
        Due.is("promise 6: of the third", x.tells(0, 2, 1), 0);
        Due.is("promise 6: by the third", x.tells(2, 1, 1), 0);
    }

    /** One giver of each KIND, by what it says: m is 3, SEA is 4, the other one is OUT so far. */
    private static int given(int kind, int said, int out) {
        RopeShore x = Due.shore(kind * 10 + 3, 0);
        x.weather(4);
        x.tells(0, 1, said);
        x.swim(1, out);
        return x.rope(0, 1);
    }

    private static void ropeByKinds() {
        Due.is("promise 7: PERSON", given(0, 25, 60), 25);
        Due.is("promise 7: GOSSIP", given(1, 25, 60), 28);
        Due.is("promise 7: MAYOR", given(2, 25, 60), 22);
        Due.is("promise 7: CUTTER", given(3, 25, 60), 25);
        Due.is("promise 7: CUTTER at the edge", given(3, 13, 60), 13);
        Due.is("promise 7: CUTTER below it", given(3, 12, 60), 0);
        Due.is("promise 7: DOCTOR", given(4, 25, 60), 32);
        Due.is("promise 7: JUDGE", given(5, 25, 60), 19);
        Due.is("promise 7: WIDOW", given(6, 25, 51), 50);
        Due.is("promise 7: WIDOW at the edge", given(6, 25, 50), 25);
        Due.is("promise 7: WIDOW for one ashore", given(6, 25, 0), 25);
        Due.is("promise 7: the most", given(6, 99, 51), 198);
        RopeShore cutter = Due.shore(33, 0);
        Due.text(cutter, 0, "g+5");
        cutter.tells(0, 1, 12);
        Due.is("promise 7: a CUTTER gives 0", cutter.rope(0, 1), 5);
        RopeShore x = Due.shore(64, 0);
        x.tells(0, 1, 30);
        x.swim(1, 500);
        x.days(1);
        Due.is("promise 7: one who is LOST is OUT still", x.rope(0, 1), 2 * 32);
        x.swim(0, 3);
        Due.is("promise 7: as if ashore", x.rope(0, 1), 64);
        Due.is("promise 7: for oneself", x.rope(0, 0), Due.BEYOND);
        Due.is("promise 7: for nobody", x.rope(0, 2), Due.BEYOND);
        Due.is("promise 7: by nobody", x.rope(-1, 0), Due.BEYOND);
        Due.is("promise 7: by the next", x.rope(2, 0), Due.BEYOND);
        Due.is("promise 7: for nobody below", x.rope(0, -1), Due.BEYOND);
    }

    private static void ropeTogether() {
        RopeShore x = Due.shore(0, 0, 0, 0);
        x.tells(0, 3, 10);
        x.tells(1, 3, 20);
        x.tells(2, 3, 40);
        Due.is("ROPE by all", x.personIs(3, 4), 70);
        x.swim(1, 1);
        Due.is("ROPE by all ashore", x.personIs(3, 4), 50);
        x.days(1);
        Due.is("LOST", x.personIs(1, 3), 1);
        Due.is("ROPE without the LOST", x.personIs(3, 4), 48);
        x.saves(1);
        Due.is("ROPE with whom was saved", x.personIs(3, 4), 67);
    }

    private static void swim() {
        RopeShore x = Due.shore(0, 0);
        Due.is("promise 8: was ashore", x.swim(0, 500), 0);
        Due.is("promise 8: was out", x.swim(0, 0), 500);
        Due.is("promise 8: out again", x.swim(0, 9), 0);
        Due.is("promise 8: above", x.swim(0, 501), Due.BEYOND);
        Due.is("promise 8: below", x.swim(0, -1), Due.BEYOND);
        Due.is("promise 8: nobody", x.swim(2, 1), Due.BEYOND);
        Due.is("promise 8: nobody below", x.swim(-1, 1), Due.BEYOND);
        x.days(1);
        Due.is("promise 8: LOST", x.swim(0, 0), Due.STATE);
        Due.is("promise 8: LOST, and too far", x.swim(0, 501), Due.BEYOND);
        Due.is("promise 8: stays", x.personIs(0, 2), 9);
    }

    private static void saves() {
        RopeShore x = Due.shore(0, 0);
        x.swim(0, 20);
        Due.is("promise 9: was out only", x.saves(0), 0);
        Due.is("promise 9: is ashore", x.personIs(0, 2), 0);
        x.swim(0, 20);
        x.days(1);
        Due.is("promise 9: was LOST", x.saves(0), 1);
        Due.is("promise 9: is ashore again", x.personIs(0, 2), 0);
        Due.is("promise 9: isn't LOST", x.personIs(0, 3), 0);
        Due.is("promise 9: no more", x.saves(0), 0);
        Due.is("promise 9: nobody", x.saves(2), Due.BEYOND);
        Due.is("promise 9: nobody below", x.saves(-1), Due.BEYOND);
    }

    private static void weather() {
        RopeShore x = new RopeShore();
        Due.is("promise 10: at first", x.weather(9), 0);
        Due.is("promise 10: what it was", x.weather(0), 9);
        Due.is("promise 10: above", x.weather(10), Due.BEYOND);
        Due.is("promise 10: below", x.weather(-1), Due.BEYOND);
        Due.is("promise 10: stays", x.weather(5), 0);
        Due.is("promise 10: as count tells", x.count(1), 5);
    }
}
