/** Promises 18 to 24: THEN, CUTS, HAULS, A PARTY, SPEAKS, ODDS, FITS. */
public final class ThoughtTest {
    public static void main(String[] args) {
        then();
        cuts();
        ofAnother();
        hauls();
        onlyWhoIsAshore();
        party();
        partyAsNow();
        speaks();
        odds();
        fits();
        onlyThought();
        Due.end("ThoughtTest");
    }

    /** Of whom 0 is spoken, by 1, 2, .. so much. */
    private static RopeShore spokenOf(int... said) {
        RopeShore x = Due.shore(0);
        for (int i = 0; i < said.length; i++) {
            x.person(0);
            x.tells(i + 1, 0, said[i]);
        }
        return x;
    }

    private static void then() {
        RopeShore x = spokenOf(30, 5);
        Due.is("promise 18: now", x.then(0, 0, 0), 35);
        Due.is("promise 18: three DAYS on", x.then(0, 3, 0), 29);
        Due.is("promise 18: held", x.then(0, 60, 0), 0);
        Due.is("promise 18: not LOST", x.then(0, 60, 1), 0);
        x.swim(0, 34);
        x.weather(1);
        Due.is("promise 18: LOST not yet", x.then(0, 0, 1), 0);
        Due.is("promise 18: LOST then", x.then(0, 1, 1), 1);
        Due.is("promise 18: still OUT then", x.then(0, 2, 0), 39);
        Due.is("promise 18: not so now", x.personIs(0, 3), 0);
        Due.is("promise 18: below", x.then(0, -1, 0), Due.BEYOND);
        Due.is("promise 18: above", x.then(0, 61, 0), Due.BEYOND);
        Due.is("promise 18: what below", x.then(0, 1, -1), Due.BEYOND);
        Due.is("promise 18: what above", x.then(0, 1, 2), Due.BEYOND);
        Due.is("promise 18: nobody", x.then(3, 1, 0), Due.BEYOND);
        Due.is("promise 18: nobody below", x.then(-1, 1, 0), Due.BEYOND);
    }

    private static void cuts() {
        RopeShore x = spokenOf(10, 20, 20, 30);
        Due.is("promise 19: below already", x.cuts(0, 81, 0), 0);
        Due.is("promise 19: nobody", x.cuts(0, 81, 1), 0);
        Due.is("promise 19: one, for 80", x.cuts(0, 80, 0), 1);
        Due.is("promise 19: the least", x.cuts(0, 80, 1), 2);
        Due.is("promise 19: for 70", x.cuts(0, 70, 1), 4);
        Due.is("promise 19: for 60", x.cuts(0, 60, 1), 16);
        Due.is("promise 19: two, for 50", x.cuts(0, 50, 0), 2);
        Due.is("promise 19: the least two", x.cuts(0, 50, 1), 4 + 8);
        Due.is("promise 19: for 40", x.cuts(0, 40, 1), 4 + 16);
        Due.is("promise 19: for 1", x.cuts(0, 1, 1), 30);
        Due.is("promise 19: for 1, four", x.cuts(0, 1, 0), 4);
        Due.is("promise 19: nobody speaks", x.cuts(1, 1, 0), 0);
        Due.is("promise 19: below", x.cuts(0, 0, 0), Due.BEYOND);
        Due.is("promise 19: the most", x.cuts(0, 500, 0), 0);
        Due.is("promise 19: above", x.cuts(0, 501, 0), Due.BEYOND);
        Due.is("promise 19: what below", x.cuts(0, 5, -1), Due.BEYOND);
        Due.is("promise 19: what above", x.cuts(0, 5, 2), Due.BEYOND);
        Due.is("promise 19: nobody of that number", x.cuts(5, 5, 0), Due.BEYOND);
        Due.is("promise 19: nobody below", x.cuts(-1, 5, 0), Due.BEYOND);
    }

    private static void ofAnother() {
        RopeShore x = Due.shore(0, 0, 0, 0, 0, 0, 0, 0);
        for (int i = 0; i < 8; i++) {
            x.tells(i, 4, 10 + i);
        }
        Due.is("promise 19: of number 4, by 0", x.cuts(4, 85, 1), 1);
        Due.is("promise 19: by 7", x.cuts(4, 78, 1), 128);
        Due.is("promise 19: by all", x.cuts(4, 1, 1), 255 - 16);
        Due.is("promise 20: of number 4, by 0", x.hauls(4, 10, 1), 1);
        Due.is("promise 20: by 7", x.hauls(4, 17, 1), 128);
        Due.is("promise 20: by 2 and 5", x.hauls(4, 27, 1), 4 + 32);
        Due.is("promise 20: by all", x.hauls(4, 94, 1), 255 - 16);
        Due.is("promise 20: not by all", x.hauls(4, 95, 1), Due.NONE);
    }

    private static void hauls() {
        RopeShore x = spokenOf(10, 20, 20, 30);
        Due.is("promise 20: one", x.hauls(0, 1, 0), 1);
        Due.is("promise 20: the least", x.hauls(0, 1, 1), 2);
        Due.is("promise 20: for 11", x.hauls(0, 11, 1), 4);
        Due.is("promise 20: for 21", x.hauls(0, 21, 1), 16);
        Due.is("promise 20: for 31", x.hauls(0, 31, 1), 4 + 8);
        Due.is("promise 20: for 41", x.hauls(0, 41, 1), 4 + 16);
        Due.is("promise 20: for 51", x.hauls(0, 51, 0), 3);
        Due.is("promise 20: for 80", x.hauls(0, 80, 1), 30);
        Due.is("promise 20: for 81", x.hauls(0, 81, 1), Due.NONE);
        Due.is("promise 20: nobody speaks", x.hauls(1, 1, 0), Due.NONE);
        Due.is("promise 20: below", x.hauls(0, 0, 0), Due.BEYOND);
        Due.is("promise 20: the most", x.hauls(0, 500, 0), Due.NONE);
        Due.is("promise 20: above", x.hauls(0, 501, 0), Due.BEYOND);
        Due.is("promise 20: what below", x.hauls(0, 5, -1), Due.BEYOND);
        Due.is("promise 20: what above", x.hauls(0, 5, 2), Due.BEYOND);
        Due.is("promise 20: nobody of that number", x.hauls(5, 5, 0), Due.BEYOND);
        Due.is("promise 20: nobody below", x.hauls(-1, 5, 0), Due.BEYOND);
    }

    private static void onlyWhoIsAshore() {
        RopeShore x = spokenOf(50, 20, 10);
        x.swim(1, 3);
        Due.is("promise 19: by who is ashore", x.cuts(0, 25, 1), 4);
        Due.is("promise 20: by who is ashore", x.hauls(0, 25, 1), 12);
        Due.is("promise 20: no more than that", x.hauls(0, 31, 1), Due.NONE);
        x.days(1);
        Due.is("promise 20: not by the LOST", x.hauls(0, 29, 1), Due.NONE);
        x.swim(0, 40);
        Due.is("promise 20: of one who is OUT", x.hauls(0, 21, 1), 12);
    }

    private static void party() {
        RopeShore x = Due.shore(0, 0, 0, 0);
        for (int i = 0; i < 4; i++) {
            for (int of = 0; of < 4; of++) {
                x.tells(i, of, 10);
            }
        }
        Due.is("promise 21: three of four", x.party(10, 0), 3);
        Due.is("promise 21: the least three", x.party(10, 1), 7);
        Due.is("promise 21: for the least", x.party(1, 1), 7);
        Due.is("promise 21: for 11", x.party(11, 1), 3);
        Due.is("promise 21: for 20", x.party(20, 0), 2);
        Due.is("promise 21: for 21", x.party(21, 1), 1);
        Due.is("promise 21: for 30", x.party(30, 0), 1);
        Due.is("promise 21: for 31", x.party(31, 0), 0);
        Due.is("promise 21: nobody", x.party(31, 1), 0);
        x.weather(2);
        Due.is("promise 21: by a sea of 2", x.party(10, 1), 3);
        Due.is("promise 21: for 20", x.party(20, 1), 1);
        Due.is("promise 21: for 21", x.party(21, 1), 0);
        Due.is("promise 21: below", x.party(0, 0), Due.BEYOND);
        Due.is("promise 21: the most", x.party(500, 0), 0);
        Due.is("promise 21: above", x.party(501, 0), Due.BEYOND);
        Due.is("promise 21: what below", x.party(5, -1), Due.BEYOND);
        Due.is("promise 21: what above", x.party(5, 2), Due.BEYOND);
        Due.is("promise 21: of no PEOPLE", new RopeShore().party(5, 1), 0);
    }

    private static void partyAsNow() {
        RopeShore x = Due.shore(60, 0, 0);
        x.tells(0, 1, 30);
        x.tells(0, 2, 30);
        Due.is("promise 21: far does not move a WIDOW", x.party(60, 0), 0);
        x.swim(2, 51);
        Due.is("promise 21: who is OUT now does", x.party(60, 1), 4);
        x.swim(0, 2);
        Due.is("promise 21: who is OUT now gives", x.party(60, 1), 4);
        x.days(1);
        Due.is("promise 21: who is LOST gives none", x.party(2, 1), 0);
        x.tells(1, 2, 9);
        x.tells(2, 1, 9);
        x.saves(2);
        Due.is("promise 21: and takes none", x.party(9, 1), 2);
        Due.is("promise 21: not more", x.party(10, 1), 0);
        x.swim(2, 60);
        x.days(1);
        x.tells(0, 2, 32);
        x.tells(1, 0, 0);
        x.tells(1, 2, 0);
        x.tells(2, 1, 0);
        x.saves(0);
        Due.is("promise 21: who is LOST is not among them", x.party(2, 1), 2);
        x.saves(2);
        Due.is("promise 21: saved", x.party(2, 1), 6);
    }

    private static void speaks() {
        RopeShore x = spokenOf(95, 50, 50);
        Due.is("promise 22: the least of two", x.speaks(0, 0), 2);
        Due.is("promise 22: by ten", x.speaks(0, 1), 10);
        x.become(3, 35);
        x.tells(3, 0, 14);
        Due.is("promise 22: a CUTTER who ties again", x.speaks(0, 0), 3);
        Due.is("promise 22: by all of it", x.speaks(0, 1), 24);
        x.swim(3, 1);
        x.swim(2, 1);
        Due.is("promise 22: who is ashore", x.speaks(0, 0), 1);
        Due.is("promise 22: 99 at most", x.speaks(0, 1), 4);
        Due.text(x, 0, "150-t");
        Due.is("promise 22: below 0", x.speaks(0, 1), -4);
        x.saves(2);
        Due.is("promise 22: the least loss", x.speaks(0, 0), 1);
        x.swim(1, 1);
        Due.is("promise 22: the only one", x.speaks(0, 0), 2);
        Due.is("promise 22: by as much less", x.speaks(0, 1), -10);
        Due.is("promise 22: what below", x.speaks(0, -1), Due.BEYOND);
        Due.is("promise 22: what above", x.speaks(0, 2), Due.BEYOND);
        Due.is("promise 22: nobody", x.speaks(4, 0), Due.BEYOND);
        Due.is("promise 22: nobody below", x.speaks(-1, 0), Due.BEYOND);
        x.swim(2, 1);
        Due.is("promise 22: nobody else is ashore", x.speaks(0, 0), Due.NONE);
        Due.is("promise 22: nobody else, but what is above", x.speaks(0, 2), Due.BEYOND);
        Due.is("promise 22: one may be OUT oneself", x.speaks(1, 0), 0);
        RopeShore y = Due.shore(1, 0, 25);
        Due.is("promise 22: the first is the most", y.speaks(1, 0), 0);
        Due.is("promise 22: by so much", y.speaks(1, 1), 10);
        y.tells(0, 1, 95);
        Due.is("promise 22: the last is the most", y.speaks(1, 0), 2);
        Due.is("promise 22: by the half", y.speaks(1, 1), 5);
    }

    private static void odds(RopeShore x, int far, int above, int below) {
        Due.is("promise 23: odds for " + far + ", above", x.odds(0, far, 0), above);
        Due.is("promise 23: odds for " + far + ", below", x.odds(0, far, 1), below);
    }

    private static void odds() {
        RopeShore x = spokenOf(90);
        odds(x, 0, 1, 1);
        odds(x, 45, 1, 1);
        odds(x, 46, 9, 10);
        odds(x, 50, 9, 10);
        odds(x, 51, 4, 5);
        odds(x, 56, 7, 10);
        odds(x, 61, 3, 5);
        odds(x, 70, 1, 2);
        odds(x, 75, 2, 5);
        odds(x, 80, 3, 10);
        odds(x, 85, 1, 5);
        odds(x, 90, 1, 10);
        odds(x, 91, 0, 1);
        odds(x, 500, 0, 1);
        x.weather(7);
        odds(x, 70, 1, 2);
        Due.is("promise 23: SEA stays", x.weather(0), 7);
        x.become(1, 40);
        odds(x, 63, 7, 10);
        Due.is("promise 23: below", x.odds(0, -1, 0), Due.BEYOND);
        Due.is("promise 23: above", x.odds(0, 501, 0), Due.BEYOND);
        Due.is("promise 23: part below", x.odds(0, 5, -1), Due.BEYOND);
        Due.is("promise 23: part above", x.odds(0, 5, 2), Due.BEYOND);
        Due.is("promise 23: nobody", x.odds(2, 5, 0), Due.BEYOND);
        Due.is("promise 23: nobody below", x.odds(-1, 5, 0), Due.BEYOND);
    }

    private static void fits() {
        RopeShore x = spokenOf(99);
        Due.sheet(x, 0, 16, 99);
        Due.is("promise 24: now", x.fits(0), 0);
        Due.sheet(x, 0, 16, 39);
        Due.is("promise 24: behind 60", x.fits(0), 60);
        Due.sheet(x, 0, 16, 38);
        Due.is("promise 24: behind 61", x.fits(0), Due.NONE);
        Due.sheet(x, 0, 32, 80, 0);
        Due.is("promise 24: of both", x.fits(0), 19);
        Due.sheet(x, 0, 32, 80, 1);
        Due.is("promise 24: of both never", x.fits(0), Due.NONE);
        Due.sheet(x, 0, 32, 80, 0, 0);
        Due.is("promise 24: of a third never", x.fits(0), Due.NONE);
        x.sheet(0, 8, 0);
        Due.is("promise 24: of nobody", x.fits(0), 0);
        Due.is("promise 24: missing", x.fits(3), Due.NONE);
        Due.is("promise 24: no such", x.fits(4), Due.BEYOND);
        Due.is("promise 24: no such below", x.fits(-1), Due.BEYOND);
        Due.sheet(x, 1, 8, 0);
        x.tells(1, 0, 5);
        Due.is("promise 24: the first", x.fits(1), 5);
    }

    private static void onlyThought() {
        RopeShore x = Due.shore(10, 21, 32, 43, 54, 65);
        for (int i = 0; i < 6; i++) {
            for (int of = 0; of < 6; of++) {
                x.tells(i, of, 7 * i + 3 * of);
            }
        }
        x.swim(5, 60);
        x.weather(3);
        Due.sheet(x, 0, 16, 1, 2, 3);
        Due.sheet(x, 1, 16, ropes(x));
        x.then(5, 60, 1);
        x.cuts(0, 40, 0);
        x.hauls(0, 40, 0);
        x.party(20, 0);
        x.speaks(0, 0);
        x.odds(0, 20, 0);
        x.fits(0);
        Due.is("only thought: ROPES", x.judge(1), 6);
        Due.is("only thought: DAY", x.count(2), 0);
        Due.is("only thought: SEA", x.count(1), 3);
        Due.is("only thought: z", x.count(6), 1);
        Due.is("only thought: LOST", x.personIs(5, 3), 0);
        Due.is("only thought: TOLD", x.tells(5, 4, 0), 47);
    }

    private static int[] ropes(RopeShore x) {
        int[] ropes = new int[x.count(0)];
        for (int i = 0; i < ropes.length; i++) {
            ropes[i] = x.personIs(i, 4);
        }
        return ropes;
    }
}
