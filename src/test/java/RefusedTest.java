/**
 * Each call that is refused: the last value that is taken and the first one that isn't, on both sides;
 * which ERROR comes first; and that nothing becomes another but what told() tells.
 */
public final class RefusedTest {
    public static void main(String[] args) {
        newPeople();
        whoIsAsked();
        asOfKinds();
        ofOneself();
        swimmers();
        seas();
        tapes();
        uses();
        daysAtMost();
        thoughts();
        noHaul();
        nobodySpeaks();
        neverFits();
        voices();
        bodies();
        sheets();
        puts();
        moves();
        wordsAndJudges();
        noImage();
        waiting();
        countsAndTold();
        Due.end("RefusedTest");
    }

    private static void newPeople() {
        Twins.within("promise 2: km", Twins::fresh, 0, 69, (x, v) -> x.person(v));
        Twins.within("promise 2: km", Twins::lively, 0, 69, (x, v) -> x.person(v));
        Twins.refused("promise 2: a ninth", Twins::full, x -> x.person(0), Due.FULL);
        Twins.refused("promise 2: a ninth", Twins::full, x -> x.person(69), Due.FULL);
        Twins.beyond("promise 2: BEYOND ahead of FULL", Twins::full, (x, v) -> x.person(v), -1, 70);
    }

    /** One of PEOPLE is asked for by a number: of none, of four, of eight. */
    private static void ofPeople(String what, Twins.Arg call) {
        Twins.beyond(what + ", of none", Twins::fresh, call, 0, -1, 1, 8, Due.MIN, Due.MAX);
        Twins.within(what + ", of four", Twins::lively, 0, 3, call);
        Twins.within(what + ", of eight", Twins::full, 0, 7, call);
    }

    /** As ofPeople(), of a call that may be refused otherwise to those who are there. */
    private static void notOfNobody(String what, Twins.Arg call) {
        Twins.beyond(what + ", of none", Twins::fresh, call, 0, -1, 1, 8, Due.MIN, Due.MAX);
        Twins.beyond(what + ", of four", Twins::lively, call, -1, 4, Due.MIN, Due.MAX);
        Twins.beyond(what + ", of eight", Twins::full, call, -1, 8, Due.MIN, Due.MAX);
    }

    private static void whoIsAsked() {
        ofPeople("promise 3: one", (x, v) -> x.personIs(v, 0));
        Twins.within("promise 3: what", Twins::lively, 0, 4, (x, v) -> x.personIs(3, v));
        ofPeople("promise 4: one", (x, v) -> x.become(v, 21));
        Twins.within("promise 4: km", Twins::lively, 0, 69, (x, v) -> x.become(3, v));
        ofPeople("promise 5: one", (x, v) -> x.as(v, 0));
        Twins.beyond("promise 5: kind", Twins::lively, (x, v) -> x.as(3, v), -1, 7, Due.MIN, Due.MAX);
        notOfNobody("promise 6: one", (x, v) -> x.tells(v, 1, 5));
        notOfNobody("promise 6: another one", (x, v) -> x.tells(1, v, 5));
        Twins.within("promise 6: v", Twins::lively, 0, 99, (x, v) -> x.tells(0, 3, v));
        notOfNobody("promise 7: one", (x, v) -> x.rope(v, 1));
        notOfNobody("promise 7: another one", (x, v) -> x.rope(1, v));
        notOfNobody("promise 8: one", (x, v) -> x.swim(v, 5));
        ofPeople("promise 9: one", (x, v) -> x.saves(v));
        ofPeople("promise 18: one", (x, v) -> x.then(v, 1, 0));
        ofPeople("promise 19: one", (x, v) -> x.cuts(v, 1, 0));
        notOfNobody("promise 20: one", (x, v) -> x.hauls(v, 1, 0));
        notOfNobody("promise 22: one", (x, v) -> x.speaks(v, 0));
        ofPeople("promise 23: one", (x, v) -> x.odds(v, 1, 0));
        notOfNobody("promise 25: one", (x, v) -> x.voice(v, 3, 5));
        ofPeople("promise 30: one", (x, v) -> x.words(v, 0));
    }

    private static void asOfKinds() {
        int[] above = {-1, 0, 0, 0, 1, 2, 0};
        for (int kind = 0; kind < 7; kind++) {
            int km = kind * 10 + 8;
            Twins.History one = () -> Due.shore(3, km);
            for (int as = 0; as < 7; as++) {
                int asked = as;
                if (as == kind || as == 0 || as == above[kind]) {
                    Due.is("promise 5: KIND " + kind + " as " + as, one.make().as(1, asked), 8);
                } else {
                    Twins.refused("promise 5: KIND " + kind, one, x -> x.as(1, asked), Due.KIND);
                }
            }
        }
        Twins.refused("promise 5: nobody, ahead of KIND", Twins::lively, x -> x.as(4, 2), Due.BEYOND);
    }

    private static void ofOneself() {
        for (int one = 0; one < 4; one++) {
            int same = one;
            Twins.refused("promise 6: of oneself", Twins::lively, x -> x.tells(same, same, 5), Due.BEYOND);
            Twins.refused("promise 7: for oneself", Twins::lively, x -> x.rope(same, same), Due.BEYOND);
            Twins.taken("promise 6: of the next", Twins::lively, x -> x.tells(same, (same + 1) % 4, 5));
            Twins.taken("promise 7: for the next", Twins::lively, x -> x.rope(same, (same + 1) % 4));
        }
    }

    private static void swimmers() {
        Twins.within("promise 8: far", Twins::lively, 0, 500, (x, v) -> x.swim(0, v));
        Twins.within("promise 8: far, of one who is OUT", Twins::lively, 0, 500, (x, v) -> x.swim(2, v));
        for (int far : new int[] {0, 1, 400, 500}) {
            Twins.refused("promise 8: one is LOST", Twins::lively, x -> x.swim(3, far), Due.STATE);
        }
        Twins.beyond("promise 8: BEYOND ahead of STATE", Twins::lively, (x, v) -> x.swim(3, v), -1, 501);
    }

    private static void seas() {
        Twins.within("promise 10: v", Twins::fresh, 0, 9, (x, v) -> x.weather(v));
        Twins.within("promise 10: v", Twins::lively, 0, 9, (x, v) -> x.weather(v));
    }

    private static RopeShore fed(int bytes) {
        RopeShore x = new RopeShore();
        for (int left = bytes; left > 0; left -= 8) {
            x.feed(0x2b312b312b312b31L, Math.min(8, left));
        }
        return x;
    }

    private static void tapes() {
        long word = 0x3131313131313131L;
        Twins.within("promise 11: n", Twins::lively, 1, 8, (x, v) -> x.feed(word, v));
        for (int n = 1; n <= 8; n++) {
            int bytes = n;
            Due.is("promise 11: up to 60 by " + n, fed(60 - bytes).feed(word, bytes), 60);
            for (int more = 1; more <= n; more++) {
                int ahead = 60 - bytes + more;
                Twins.refused("promise 11: " + ahead + " and " + n, () -> fed(ahead), x -> x.feed(word, bytes), Due.FULL);
            }
        }
        Twins.refused("promise 11: a full TAPE", Twins::full, x -> x.feed(word, 1), Due.FULL);
        Twins.beyond("promise 11: BEYOND ahead of FULL", Twins::full, (x, v) -> x.feed(word, v), 0, 9, -1);
    }

    private static void uses() {
        for (Twins.History history : new Twins.History[] {Twins::fresh, Twins::lively, Twins::full}) {
            Twins.within("promise 12: use", history, 0, 1, (x, v) -> x.text(v));
            Twins.within("promise 13: use", history, 0, 1, (x, v) -> x.untell(v));
            Twins.within("promise 14: use", history, 0, 1, (x, v) -> x.law(v, 1, 2, 3));
        }
    }

    private static RopeShore onDay(int day) {
        RopeShore x = new RopeShore();
        for (int i = 0; i < day / 60; i++) {
            x.days(60);
        }
        x.days(day % 60);
        x.person(13);
        x.person(3);
        x.tells(0, 1, 50);
        return x;
    }

    private static void daysAtMost() {
        Twins.within("promise 15: n", Twins::lively, 1, 60, (x, v) -> x.days(v));
        Twins.within("promise 16: n", Twins::lively, 1, 30, (x, v) -> x.loose(v));
        for (int n : new int[] {1, 2, 30, 60}) {
            Twins.History last = () -> onDay(9999 - n);
            Twins.History above = () -> onDay(9999 - n + 1);
            Twins.taken("promise 15: to DAY 9999 by " + n, last, x -> x.days(n));
            Twins.refused("promise 15: to DAY 10000 by " + n, above, x -> x.days(n), Due.STATE);
            if (n <= 30) {
                Twins.taken("promise 16: to DAY 9999 by " + n, last, x -> x.loose(n));
                Twins.refused("promise 16: to DAY 10000 by " + n, above, x -> x.loose(n), Due.STATE);
            }
        }
        Twins.refused("promise 15: on DAY 9999", Twins::full, x -> x.days(1), Due.STATE);
        Twins.refused("promise 15: on DAY 9999", Twins::full, x -> x.days(60), Due.STATE);
        Twins.refused("promise 16: on DAY 9999", Twins::full, x -> x.loose(1), Due.STATE);
        Twins.refused("promise 16: on DAY 9999", Twins::full, x -> x.loose(30), Due.STATE);
        Twins.beyond("promise 15: BEYOND ahead of STATE", Twins::full, (x, v) -> x.days(v), 0, -1, 61, Due.MAX);
        Twins.beyond("promise 16: BEYOND ahead of STATE", Twins::full, (x, v) -> x.loose(v), 0, -1, 31, Due.MAX);
    }

    private static void thoughts() {
        Twins.History lively = Twins::lively;
        Twins.within("promise 18: n", lively, 0, 60, (x, v) -> x.then(1, v, 0));
        Twins.within("promise 18: what", lively, 0, 1, (x, v) -> x.then(1, 9, v));
        Twins.within("promise 18: n on DAY 9999", Twins::full, 0, 60, (x, v) -> x.then(1, v, 0));
        Twins.within("promise 19: f", lively, 1, 500, (x, v) -> x.cuts(1, v, 1));
        Twins.within("promise 19: what", lively, 0, 1, (x, v) -> x.cuts(1, 9, v));
        Twins.beyond("promise 20: f", lively, (x, v) -> x.hauls(1, v, 1), 0, -1, 501, Due.MIN, Due.MAX);
        Twins.within("promise 20: what", lively, 0, 1, (x, v) -> x.hauls(1, 9, v));
        Twins.within("promise 21: f", lively, 1, 500, (x, v) -> x.party(v, 1));
        Twins.within("promise 21: what", lively, 0, 1, (x, v) -> x.party(9, v));
        Twins.within("promise 21: f, of nobody", Twins::fresh, 1, 500, (x, v) -> x.party(v, 1));
        Twins.within("promise 22: what", lively, 0, 1, (x, v) -> x.speaks(1, v));
        Twins.within("promise 23: f", lively, 0, 500, (x, v) -> x.odds(1, v, 1));
        Twins.within("promise 23: part", lively, 0, 1, (x, v) -> x.odds(1, 9, v));
        for (int what = 0; what < 2; what++) {
            int asked = what;
            Twins.alike("promise 18: only thought", lively, x -> x.then(1, 60, asked));
            Twins.alike("promise 18: only thought", Twins::full, x -> x.then(1, 60, asked));
            Twins.alike("promise 19: only thought", lively, x -> x.cuts(1, 20, asked));
            Twins.alike("promise 20: only thought", lively, x -> x.hauls(1, 20, asked));
            Twins.alike("promise 21: only thought", lively, x -> x.party(20, asked));
            Twins.alike("promise 22: only thought", lively, x -> x.speaks(1, asked));
            Twins.alike("promise 23: only thought", lively, x -> x.odds(1, 20, asked));
            Twins.alike("promise 24: only thought", lively, x -> x.fits(asked));
        }
    }

    private static void noHaul() {
        Twins.History three = () -> {
            RopeShore x = Due.shore(0, 0, 0);
            x.tells(0, 2, 99);
            x.tells(1, 2, 51);
            return x;
        };
        for (int what = 0; what < 2; what++) {
            int asked = what;
            Twins.taken("promise 20: all together", three, x -> x.hauls(2, 150, asked));
            Twins.refused("promise 20: not all together", three, x -> x.hauls(2, 151, asked), Due.NONE);
            Twins.refused("promise 20: nobody else speaks", three, x -> x.hauls(0, 1, asked), Due.NONE);
        }
        Twins.refused("promise 20: BEYOND ahead of NONE", three, x -> x.hauls(0, 1, 2), Due.BEYOND);
        Twins.refused("promise 20: BEYOND ahead of NONE", three, x -> x.hauls(0, 501, 0), Due.BEYOND);
    }

    private static void nobodySpeaks() {
        Twins.History alone = () -> Due.shore(5);
        Twins.History two = () -> Due.shore(5, 6);
        Twins.History other = () -> {
            RopeShore x = Due.shore(5, 6);
            x.swim(1, 1);
            return x;
        };
        for (int what = 0; what < 2; what++) {
            int asked = what;
            Twins.refused("promise 22: nobody else", alone, x -> x.speaks(0, asked), Due.NONE);
            Twins.refused("promise 22: nobody else is ASHORE", other, x -> x.speaks(0, asked), Due.NONE);
            Twins.taken("promise 22: one else is", two, x -> x.speaks(0, asked));
            Twins.taken("promise 22: one else is, though one is OUT", other, x -> x.speaks(1, asked));
        }
        Twins.beyond("promise 22: BEYOND ahead of NONE", alone, (x, v) -> x.speaks(0, v), -1, 2);
    }

    private static void neverFits() {
        Twins.beyond("promise 24: SHEET", Twins::lively, (x, v) -> x.fits(v), -1, 4, Due.MIN, Due.MAX);
        Twins.refused("promise 24: missing", Twins::fresh, x -> x.fits(0), Due.NONE);
        Twins.refused("promise 24: missing", Twins::lively, x -> x.fits(3), Due.NONE);
        Twins.refused("promise 24: not by 60", Twins::lively, x -> x.fits(0), Due.NONE);
        Twins.refused("promise 24: more numbers than PEOPLE", Twins::full, x -> x.fits(3), Due.NONE);
    }

    private static void voices() {
        Twins.within("promise 25: voice", Twins::lively, 0, 3, (x, v) -> x.voice(1, v, 77));
        for (int kind = 0; kind < 7; kind++) {
            int km = kind * 10 + 1;
            // The BODIES that a PARTED voice() begins stand in THE TRACE already: it is to change by nothing else.
            Twins.History one = () -> {
                RopeShore x = Due.shore(5, km);
                x.voice(1, 3, 8);
                return x;
            };
            Twins.refused("promise 25: PARTED, KIND " + kind, one, x -> x.voice(1, 3, 9), Due.PARTED);
            Twins.beyond("promise 25: BEYOND ahead of PARTED", one, (x, v) -> x.voice(1, v, 9), -1, 4);
            Twins.refused("promise 25: nobody", one, x -> x.voice(2, 3, 9), Due.BEYOND);
        }
    }

    private static void bodies() {
        Twins.refused("promise 26: none at first", Twins::fresh, x -> x.body(0), Due.NONE);
        for (int i : new int[] {0, 5}) {
            Twins.taken("promise 26: of six", Twins::lively, x -> x.body(i));
        }
        for (int i : new int[] {-1, 6, 29, 30, 31, Due.MIN, Due.MAX}) {
            Twins.refused("promise 26: no BODY " + i, Twins::lively, x -> x.body(i), Due.NONE);
        }
    }

    private static void sheets() {
        Twins.within("promise 27: SHEET", Twins::lively, 0, 3, (x, v) -> x.sheet(v, 16, 5));
        for (int bits : new int[] {8, 16, 32}) {
            Twins.taken("promise 27: no numbers", Twins::lively, x -> x.sheet(0, bits, 0));
            Twins.taken("promise 27: 24 numbers", Twins::lively, x -> x.sheet(0, bits, 24));
            for (int n : new int[] {25, 26, Due.MAX}) {
                Twins.refused("promise 27: n of " + n, Twins::lively, x -> x.sheet(0, bits, n), Due.BEYOND);
            }
            for (int n : new int[] {-1, -2, Due.MIN}) {
                Twins.refused("promise 27: n of " + n, Twins::lively, x -> x.sheet(0, bits, n), Due.STATE);
                Twins.refused("promise 27: n of " + n, Twins::lively, x -> x.sheet(3, bits, n), Due.STATE);
                Twins.beyond("promise 27: SHEET ahead of STATE", Twins::lively, (x, v) -> x.sheet(v, bits, n), -1, 4);
            }
        }
        for (int n : new int[] {-1, 0, 24, 25, Due.MIN, Due.MAX}) {
            Twins.taken("promise 27: missing, n of " + n, Twins::lively, x -> x.sheet(1, 0, n));
        }
        for (int bits : new int[] {-1, 1, 7, 9, 15, 17, 24, 31, 33, 64, -8, -32, 8 + 256, Due.MIN, Due.MAX}) {
            for (int n : new int[] {2, 25, -1}) {
                Twins.refused("promise 27: bits " + bits, Twins::lively, x -> x.sheet(0, bits, n), Due.BEYOND);
            }
        }
        Twins.refused("promise 27: no SHEET to be missing", Twins::lively, x -> x.sheet(4, 0, 0), Due.BEYOND);
    }

    private static void puts() {
        Twins.beyond("promise 28: SHEET", Twins::lively, (x, v) -> x.put(v, 0, 9), -1, 4, Due.MIN, Due.MAX);
        Twins.within("promise 28: number of three", Twins::lively, 0, 2, (x, v) -> x.put(0, v, 9));
        Twins.within("promise 28: number of 24", Twins::full, 0, 23, (x, v) -> x.put(3, v, 9));
        Twins.History none = () -> {
            RopeShore x = new RopeShore();
            x.sheet(2, 16, 0);
            return x;
        };
        Twins.beyond("promise 28: number of none", none, (x, v) -> x.put(2, v, 9), 0, -1, 1);
        for (int i : new int[] {0, -1, 24}) {
            Twins.refused("promise 28: NONE ahead of BEYOND", Twins::lively, x -> x.put(3, i, 9), Due.NONE);
        }
        for (int v : new int[] {Due.MIN, -1, 256, Due.MAX}) {
            Twins.taken("promise 28: v of " + v, Twins::lively, x -> x.put(0, 0, v));
        }
    }

    private static void moves() {
        Twins.History lively = Twins::lively;
        Twins.beyond("promise 29: SHEET", lively, (x, v) -> x.move(v, 0, 0, 0, 1), -1, 4, Due.MIN, Due.MAX);
        Twins.beyond("promise 29: another one", lively, (x, v) -> x.move(0, 0, v, 0, 1), -1, 4, Due.MIN, Due.MAX);
        Twins.beyond("promise 29: SHEET ahead of NONE", lively, (x, v) -> x.move(3, 0, v, 0, 1), -1, 4);
        Twins.beyond("promise 29: SHEET ahead of NONE", lively, (x, v) -> x.move(v, 0, 3, 0, 1), -1, 4);
        for (int n : new int[] {1, 0, -1, 25}) {
            Twins.refused("promise 29: missing", lively, x -> x.move(3, 0, 0, 0, n), Due.NONE);
            Twins.refused("promise 29: missing", lively, x -> x.move(0, 0, 3, 0, n), Due.NONE);
            Twins.refused("promise 29: missing", lively, x -> x.move(3, 0, 3, 0, n), Due.NONE);
            Twins.refused("promise 29: unlike bits", lively, x -> x.move(0, 0, 1, 0, n), Due.KIND);
            Twins.refused("promise 29: unlike bits", lively, x -> x.move(1, 0, 0, 0, n), Due.KIND);
        }
        // SHEET 0 has three numbers, SHEET 2 has two, both of 8 bits.
        Twins.within("promise 29: i for two", lively, 0, 1, (x, v) -> x.move(0, v, 2, 0, 2));
        Twins.within("promise 29: j for two", lively, 0, 1, (x, v) -> x.move(2, 0, 0, v, 2));
        Twins.within("promise 29: i for one", lively, 0, 2, (x, v) -> x.move(0, v, 2, 0, 1));
        Twins.within("promise 29: j for one", lively, 0, 1, (x, v) -> x.move(0, 0, 2, v, 1));
        Twins.within("promise 29: i for none", lively, 0, 3, (x, v) -> x.move(0, v, 2, 0, 0));
        Twins.within("promise 29: j for none", lively, 0, 2, (x, v) -> x.move(0, 0, 2, v, 0));
        Twins.within("promise 29: n by here", lively, 0, 2, (x, v) -> x.move(2, 0, 0, 0, v));
        Twins.within("promise 29: n by there", lively, 0, 2, (x, v) -> x.move(0, 0, 2, 0, v));
        Twins.within("promise 29: n of the same", lively, 0, 2, (x, v) -> x.move(0, 1, 0, 0, v));
        Twins.refused("promise 29: i and n wrap", lively, x -> x.move(0, Due.MAX, 2, 0, 2), Due.BEYOND);
        Twins.refused("promise 29: j and n wrap", lively, x -> x.move(0, 0, 2, 2, Due.MAX), Due.BEYOND);
        Twins.refused("promise 29: they wrap to what is there", lively, x -> x.move(0, Due.MIN, 2, Due.MIN, Due.MIN),
            Due.BEYOND);
        Twins.within("promise 29: n of 24", Twins::full, 0, 24, (x, v) -> x.move(0, 0, 1, 0, v));
    }

    private static void wordsAndJudges() {
        Twins.beyond("promise 30: SHEET", Twins::lively, (x, v) -> x.words(0, v), -1, 4, Due.MIN, Due.MAX);
        Twins.refused("promise 30: missing", Twins::lively, x -> x.words(0, 3), Due.NONE);
        Twins.beyond("promise 30: nobody ahead of NONE", Twins::lively, (x, v) -> x.words(v, 3), -1, 4);
        Twins.beyond("promise 31: SHEET", Twins::lively, (x, v) -> x.judge(v), -1, 4, Due.MIN, Due.MAX);
        Twins.refused("promise 31: missing", Twins::lively, x -> x.judge(3), Due.NONE);
        for (int sheet = 0; sheet < 4; sheet++) {
            int asked = sheet;
            Twins.refused("promise 30: none at first", () -> Due.shore(5), x -> x.words(0, asked), Due.NONE);
            Twins.refused("promise 31: none at first", Twins::fresh, x -> x.judge(asked), Due.NONE);
            Twins.taken("promise 30: SHEET " + sheet, Twins::full, x -> x.words(0, asked));
            Twins.taken("promise 31: SHEET " + sheet, Twins::full, x -> x.judge(asked));
            Twins.alike("promise 31: a judge changes nothing", Twins::full, x -> x.judge(asked));
        }
    }

    private static void noImage() {
        Twins.refused("promise 33: none", Twins::fresh, x -> x.restore(), Due.NONE);
        Twins.History peopled = () -> {
            RopeShore x = Due.shore(4, 25, 61);
            x.tells(0, 1, 30);
            x.swim(2, 8);
            Due.feed(x, "g+1");
            x.tell(0);
            return x;
        };
        Twins.refused("promise 33: none", peopled, x -> x.restore(), Due.NONE);
    }

    private static void waiting() {
        Twins.History oneLess = () -> {
            RopeShore x = Due.shore(0);
            for (int i = 0; i < 23; i++) {
                x.tell(0);
            }
            return x;
        };
        Twins.taken("promise 34: the 24th", oneLess, x -> x.tell(0));
        for (int v : new int[] {0, Due.MIN, Due.MAX}) {
            Twins.refused("promise 34: the 25th", Twins::full, x -> x.tell(v), Due.FULL);
        }
    }

    private static void countsAndTold() {
        Twins.within("promise 36: what", Twins::lively, 0, 6, (x, v) -> x.count(v));
        Twins.within("promise 37: k", Twins::lively, 1, 6, (x, v) -> x.told(v));
        Twins.within("promise 37: k", Twins::fresh, 1, 6, (x, v) -> x.told(v));
    }
}
