/** Promises 15 to 17: DAYS, DAYS BY DRAWS, and where the draws come from. */
public final class DaysTest {
    public static void main(String[] args) {
        whoGetsLost();
        turnsByKinds();
        turnsAreHeld();
        days();
        dayAtMost();
        looseOfNobody();
        looseOfPeople();
        loose();
        seed();
        Due.end("DaysTest");
    }

    private static void whoGetsLost() {
        for (int far = 9; far <= 11; far++) {
            RopeShore x = Due.shore(0, 0);
            x.weather(2);
            x.tells(1, 0, 20);
            x.swim(0, far);
            Due.is("promise 15: by 20 out " + far, x.days(1), far > 10 ? 1 : 0);
            Due.is("promise 15: LOST", x.personIs(0, 3), far > 10 ? 1 : 0);
            Due.is("promise 15: OUT stays", x.personIs(0, 2), far);
        }
        RopeShore x = Due.shore(0, 0, 0);
        x.weather(9);
        Due.is("promise 15: who is ashore isn't LOST", x.days(60), 0);
        x.swim(0, 1);
        x.swim(1, 1);
        Due.is("promise 15: two at once", x.days(1), 2);
        Due.is("promise 15: they are LOST already", x.days(2), 0);
        x.saves(0);
        x.swim(0, 4);
        Due.is("promise 15: once more", x.days(2), 1);
    }

    /** What one of a KIND, m 3, says behind a DAY of one who is OUT so far, on DAY d. */
    private static int turned(int kind, int said, int out, int d) {
        RopeShore x = Due.shore(kind * 10 + 3, 0);
        if (d > 0) {
            x.days(d);
        }
        x.tells(0, 1, said);
        x.swim(1, out);
        x.days(1);
        return x.tells(0, 1, 0);
    }

    private static void turnsByKinds() {
        Due.is("PERSON turns", turned(0, 50, 1, 0), 51);
        Due.is("PERSON turns for one ashore", turned(0, 50, 0, 0), 49);
        Due.is("GOSSIP turns", turned(1, 50, 1, 0), 51);
        Due.is("GOSSIP turns on DAY 1", turned(1, 50, 1, 1), 52);
        Due.is("GOSSIP turns on DAY 2", turned(1, 50, 1, 2), 53);
        Due.is("GOSSIP turns on DAY 3", turned(1, 50, 1, 3), 51);
        Due.is("GOSSIP turns for one ashore", turned(1, 50, 0, 2), 51);
        Due.is("MAYOR turns", turned(2, 50, 1, 2), 50);
        Due.is("MAYOR turns for one ashore", turned(2, 50, 0, 2), 50);
        Due.is("CUTTER turns", turned(3, 50, 1, 2), 51);
        Due.is("CUTTER turns for one ashore", turned(3, 50, 0, 2), 49);
        Due.is("DOCTOR turns", turned(4, 50, 1, 2), 52);
        Due.is("DOCTOR turns for one ashore", turned(4, 50, 0, 1), 49);
        Due.is("JUDGE turns", turned(5, 20, 1, 2), 18);
        Due.is("JUDGE turns below 20", turned(5, 19, 0, 2), 21);
        Due.is("WIDOW turns", turned(6, 50, 1, 2), 52);
        Due.is("WIDOW turns for one ashore", turned(6, 50, 0, 2), 48);
    }

    private static void turnsAreHeld() {
        Due.is("at most 99", turned(0, 99, 1, 0), 99);
        Due.is("at most 99 by 3", turned(1, 97, 1, 2), 99);
        Due.is("at least 0", turned(0, 0, 0, 0), 0);
        Due.is("at least 0 by 2", turned(6, 1, 0, 0), 0);
        RopeShore x = Due.shore(0, 0, 0);
        x.tells(2, 0, 30);
        x.swim(0, 29);
        x.swim(2, 5);
        Due.is("who is OUT gives none", x.days(1), 2);
        Due.is("and is turned", x.tells(0, 2, 0), 1);
        Due.is("by the LOST, too", x.tells(2, 0, 0), 31);
    }

    private static void days() {
        RopeShore x = Due.shore(0);
        Due.is("promise 15: none", x.days(0), Due.BEYOND);
        Due.is("promise 15: below", x.days(-1), Due.BEYOND);
        Due.is("promise 15: above", x.days(61), Due.BEYOND);
        Due.is("promise 15: sixty", x.days(60), 0);
        Due.is("promise 15: one", x.days(1), 0);
        Due.is("promise 15: DAY", x.count(2), 61);
    }

    private static void dayAtMost() {
        RopeShore x = new RopeShore();
        for (int i = 0; i < 166; i++) {
            x.days(60);
        }
        Due.is("DAY", x.count(2), 9960);
        Due.is("promise 15: DAY above", x.days(40), Due.STATE);
        Due.is("promise 15: too many of them", x.days(61), Due.BEYOND);
        x.image();
        x.days(38);
        Due.is("promise 16: two too many", x.loose(2), Due.STATE);
        Due.is("promise 16: DAY at most", x.loose(1), 0);
        Due.is("DAY", x.count(2), 9999);
        x.restore();
        Due.is("promise 15: DAY at most", x.days(39), 0);
        Due.is("DAY", x.count(2), 9999);
        Due.is("promise 15: none any more", x.days(1), Due.STATE);
        Due.is("promise 16: none any more", x.loose(1), Due.STATE);
        Due.is("promise 16: too many of them", x.loose(31), Due.BEYOND);
        Due.is("promise 16: nothing was drawn", x.count(6), 1);
        x.person(0);
        Due.is("promise 18: thought goes on", x.then(0, 60, 0), 0);
        Due.is("DAY", x.count(2), 9999);
    }

    private static void looseOfNobody() {
        RopeShore x = new RopeShore();
        int z = 1;
        for (int d = 0; d < 20; d++) {
            x.loose(1);
            z = z * 1103515245 + 12345;
            Due.is("promise 16: one draw", x.count(6), z);
            Due.is("promise 16: SEA", x.count(1), (z >>> 8) % 10);
        }
        Due.is("promise 16: DAY", x.count(2), 20);
    }

    private static void looseOfPeople() {
        RopeShore x = Due.shore(0, 0, 0);
        int z = 1;
        for (int d = 0; d < 30; d++) {
            for (int who = 0; who < 3 && d % 4 != 3; who++) {
                x.saves(who);
            }
            z = z * 1103515245 + 12345;
            int sea = (z >>> 8) % 10;
            z = z * 1103515245 + 12345;
            int who = (z >>> 8) % 3;
            z = z * 1103515245 + 12345;
            int far = (z >>> 8) % 60;
            boolean lost = x.personIs(who, 3) == 1;
            int was = x.personIs(who, 2);
            x.loose(1);
            Due.is("promise 16: three draws", x.count(6), z);
            Due.is("promise 16: SEA", x.count(1), sea);
            Due.is("promise 16: OUT, if not LOST", x.personIs(who, 2), lost ? was : far);
        }
    }

    private static void loose() {
        RopeShore x = Due.shore(0);
        Due.is("promise 16: none", x.loose(0), Due.BEYOND);
        Due.is("promise 16: below", x.loose(-1), Due.BEYOND);
        Due.is("promise 16: above", x.loose(31), Due.BEYOND);
        Due.is("promise 16: the only one gets LOST", x.loose(30), 1);
        Due.is("promise 16: DAY", x.count(2), 30);
        Due.is("promise 16: LOST", x.personIs(0, 3), 1);
    }

    private static void seed() {
        RopeShore x = new RopeShore();
        Due.is("promise 17: at first", x.seed(Due.MIN), 1);
        Due.is("promise 17: what it was", x.seed(Due.BEYOND), Due.MIN);
        Due.is("promise 17: any number", x.seed(0), Due.BEYOND);
        Due.is("promise 17: that is no ERROR", x.told(1), 0);
        x.loose(1);
        Due.is("promise 17: draws begin there", x.seed(5), 12345);
        x.seed(Due.MAX);
        x.loose(1);
        int z = Due.MAX * 1103515245 + 12345;
        Due.is("promise 17: and wrap", x.count(1), (z >>> 8) % 10);
    }
}
