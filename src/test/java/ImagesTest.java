/** Promises 32 to 37: IMAGES, numbers that wait, counts, and what told() tells. */
public final class ImagesTest {
    public static void main(String[] args) {
        image();
        restore();
        whatAnImageLeavesOut();
        peopleSince();
        textsSince();
        tell();
        check();
        count();
        told();
        toldOfAll();
        Due.end("ImagesTest");
    }

    private static void image() {
        RopeShore x = new RopeShore();
        Due.is("promise 33: none", x.restore(), Due.NONE);
        Due.is("promise 32: the first", x.image(), 1);
        Due.is("promise 32: the second", x.image(), 2);
        Due.is("promise 33: DAY", x.restore(), 0);
        Due.is("promise 32: how often isn't restored", x.image(), 3);
    }

    private static void restore() {
        RopeShore x = Due.shore(14, 27, 0);
        x.tells(0, 1, 33);
        x.swim(2, 30);
        x.days(4);
        x.saves(1);
        x.swim(1, 12);
        x.weather(8);
        x.seed(99);
        Due.text(x, 0, "g+1");
        Due.text(x, 1, "2");
        Due.feed(x, "g*");
        x.tell(0);
        x.image();

        x.become(0, 65);
        x.tells(0, 1, 1);
        x.saves(2);
        x.swim(1, 500);
        x.weather(1);
        x.seed(3);
        x.untell(0);
        Due.text(x, 1, "3");
        Due.feed(x, "ssss");
        x.check();
        x.tell(77);
        x.tell(2);
        x.days(5);
        x.person(30);
        for (int time = 0; time < 2; time++) {
            Due.is("promise 33: DAY", x.restore(), 4);
            restored(x);
            x.days(2);
            x.check();
            x.loose(3);
            x.untell(1);
        }
        x.image();
        Due.is("promise 32: in place of the one ahead", x.restore(), 9);
        Due.is("promise 32: all of it", x.untell(1), 0);
    }

    private static void restored(RopeShore x) {
        Due.is("promise 33: PEOPLE", x.count(0), 3);
        Due.is("promise 33: KIND", x.personIs(0, 0), 1);
        Due.is("promise 33: m", x.personIs(0, 1), 4);
        Due.is("promise 33: OUT", x.personIs(1, 2), 12);
        Due.is("promise 33: LOST", x.personIs(2, 3), 1);
        Due.is("promise 33: TOLD", x.tells(0, 1, 0), 32);
        Due.is("promise 33: SEA", x.count(1), 8);
        Due.is("promise 33: DAY again", x.count(2), 4);
        Due.is("promise 33: THE TAPE", x.count(3), 2);
        Due.is("promise 33: numbers that wait", x.count(4), 1);
        Due.is("promise 33: z", x.count(6), 99);
        Due.is("promise 33: ROPE's TEXT", x.law(0, 5, 0, 0), 6);
        Due.is("promise 33: CHANGE's TEXT", x.law(1, 5, 0, 0), 2);
        Due.is("promise 33: THE TAPE's bytes", Due.text(x, 0, "3"), 1);
        Due.is("promise 33: THE TAPE's TEXT", x.law(0, 5, 0, 0), 15);
        Due.is("promise 33: what waited", x.check(), 0);
        Due.is("promise 33: waits no more", x.count(4), 0);
    }

    private static void whatAnImageLeavesOut() {
        RopeShore x = Due.shore(5, 0);
        Due.sheet(x, 0, 8, 1);
        x.voice(0, 0, 1);
        x.image();
        x.swim(9, 1);
        x.put(0, 0, 7);
        x.sheet(1, 8, 1);
        x.voice(0, 2, 1);
        x.restore();
        Due.is("promise 33: told() goes on", x.told(1), 1);
        Due.is("promise 33: THE TRACE stays", x.count(5), 3);
        Due.is("promise 33: SHEETS stay", x.judge(1), 1);
        x.words(1, 0);
        Due.is("promise 33: their numbers, too", x.tells(1, 0, 0), 7);
    }

    private static void peopleSince() {
        RopeShore x = Due.shore(0);
        x.image();
        x.person(25);
        x.tells(1, 0, 60);
        x.tells(0, 1, 61);
        x.swim(1, 100);
        x.days(1);
        x.restore();
        Due.is("promise 33: nobody since", x.personIs(1, 0), Due.BEYOND);
        Due.is("promise 2: one more", x.person(0), 1);
        Due.is("promise 2: says nothing yet", x.tells(1, 0, 0), 0);
        Due.is("promise 2: is not spoken of yet", x.tells(0, 1, 0), 0);
        Due.is("promise 2: is not OUT", x.personIs(1, 2), 0);
        Due.is("promise 2: is not LOST", x.personIs(1, 3), 0);
    }

    private static void textsSince() {
        RopeShore x = new RopeShore();
        Due.text(x, 0, "11");
        x.image();
        Due.text(x, 0, "22");
        x.restore();
        Due.text(x, 1, "3");
        Due.is("promise 33: a TEXT", x.law(0, 0, 0, 0), 11);
        Due.text(x, 0, "s+1+2+3");
        x.restore();
        Due.is("promise 33: again", x.law(0, 0, 0, 0), 11);
        Due.is("promise 33: no other one", x.untell(1), 0);
        x.untell(0);
        x.image();
        Due.text(x, 0, "4");
        x.restore();
        Due.is("promise 33: none", x.law(0, 7, 0, 0), 7);
    }

    private static void tell() {
        RopeShore x = new RopeShore();
        for (int i = 1; i <= 24; i++) {
            Due.is("promise 34: " + i, x.tell(i), i);
        }
        Due.is("promise 34: one more", x.tell(25), Due.FULL);
        Due.is("promise 34: 24 wait", x.count(4), 24);
        Due.is("promise 35: for nobody", x.check(), 1);
        Due.is("promise 34: the first again", x.tell(Due.MIN), 1);
    }

    private static void check() {
        RopeShore x = Due.shore(0, 0, 0);
        x.swim(0, 10);
        x.swim(1, 20);
        Due.is("promise 35: none wait", x.check(), 0);
        x.tell(10);
        x.tell(20);
        Due.is("promise 35: two", x.check(), 0);
        Due.is("promise 35: none any more", x.count(4), 0);
        x.tell(10);
        x.tell(20);
        x.tell(0);
        Due.is("promise 35: all", x.check(), 0);
        x.tell(11);
        Due.is("promise 35: place 0", x.check(), 1);
        Due.is("promise 35: none any more then, too", x.count(4), 0);
        x.tell(10);
        x.tell(21);
        x.tell(1);
        Due.is("promise 35: place 1", x.check(), 2);
        x.tell(10);
        x.tell(20);
        x.tell(0);
        x.tell(0);
        Due.is("promise 35: nobody at place 3", x.check(), 4);
    }

    private static void count() {
        RopeShore x = Due.shore(0, 0);
        x.weather(3);
        x.days(5);
        x.feed(0, 6);
        x.tell(1);
        x.tell(1);
        x.tell(1);
        x.voice(0, 1, 1);
        x.seed(Due.NONE);
        int[] due = {2, 3, 5, 6, 3, 2, Due.NONE};
        for (int what = 0; what < due.length; what++) {
            Due.is("promise 36: count(" + what + ")", x.count(what), due[what]);
        }
        Due.is("promise 36: z is no ERROR", x.told(2), 0);
        Due.is("promise 36: below", x.count(-1), Due.BEYOND);
        Due.is("promise 36: above", x.count(7), Due.BEYOND);
    }

    private static void told() {
        RopeShore x = Due.shore(0, 0);
        Due.is("promise 37: k below", x.told(0), Due.BEYOND);
        Due.is("promise 37: k above", x.told(7), Due.BEYOND);
        Due.is("promise 37: k far below", x.told(Due.MIN), Due.BEYOND);
        Due.is("promise 37: they are counted", x.told(1), 3);
        x.restore();
        x.body(0);
        Due.is("promise 37: NONE", x.told(2), 2);
        x.sheet(0, 8, -1);
        Due.is("promise 37: STATE", x.told(3), 1);
        for (int i = 0; i < 26; i++) {
            x.tell(i);
        }
        Due.is("promise 37: FULL", x.told(4), 2);
        x.as(0, 3);
        Due.is("promise 37: KIND", x.told(5), 1);
        x.voice(0, 3, 3);
        x.voice(0, 3, 3);
        x.voice(0, 3, 3);
        Due.is("promise 37: PARTED", x.told(6), 3);
        Due.is("promise 37: BEYOND still", x.told(1), 3);
    }

    /** Every call that can answer BEYOND does so once, and each is counted. */
    private static void toldOfAll() {
        RopeShore x = new RopeShore();
        int[] answers = {
            x.person(-1), x.personIs(0, 0), x.become(0, 0), x.as(0, 0), x.tells(0, 1, 0), x.rope(0, 1),
            x.swim(0, 0), x.saves(0), x.weather(-1), x.feed(0, 0), x.text(2), x.untell(2),
            x.law(2, 0, 0, 0), x.days(0), x.loose(0), x.then(0, 0, 0), x.cuts(0, 1, 0),
            x.hauls(0, 1, 0), x.party(0, 0), x.speaks(0, 0), x.odds(0, 0, 0), x.fits(4),
            x.voice(0, 0, 0), x.sheet(4, 8, 1), x.put(4, 0, 0), x.move(4, 0, 0, 0, 0),
            x.words(0, 0), x.judge(4), x.count(7), x.told(0)
        };
        for (int i = 0; i < answers.length; i++) {
            Due.is("promise 37: answer " + i, answers[i], Due.BEYOND);
        }
        Due.is("promise 37: each is counted", x.told(1), answers.length);
    }
}
