/**
 * The sentences of the document's chapter 3 of Terms, and of promises 18 to 24, that name a boundary
 * case, one test for each: what stands on each side.
 */
public final class ThoughtEdgesTest {
    public static void main(String[] args) {
        thenFrom0To60();
        thenOfLost();
        thenBeyond9999();
        cutsBelow();
        cutsOfNobody();
        cutsLeast();
        haulsOrMore();
        haulsLeast();
        handsAreAshore();
        handsOfWidowsAbove50();
        partyOrMore();
        partyBySea();
        partyOfNobody();
        partyOfAllButOne();
        partyLeast();
        partyNoneLost();
        partyAsNow();
        speaks99AtMost();
        speaksOfOneAbove50();
        speaksLeast();
        speaksAnyNumber();
        oddsNoMore();
        oddsInLowestTerms();
        oddsByThatSea();
        fitsFrom0To60();
        fitsFirst();
        fitsBeyond9999();
        fitsOfNumbers();
        Due.end("ThoughtEdgesTest");
    }

    /** Of whom 0 is spoken, by 1, 2, .. so much. */
    private static RopeShore spokenOf(int... said) {
        RopeShore x = Due.shore(0);
        for (int i = 0; i < said.length; i++) {
            x.person(0);
            x.tells(i + 1, 0, said[i]);
        }
        return x;
    }

    private static RopeShore onDay9999(int... kms) {
        RopeShore x = new RopeShore();
        for (int i = 0; i < 166; i++) {
            x.days(60);
        }
        x.days(39);
        for (int km : kms) {
            x.person(km);
        }
        return x;
    }

    private static void thenFrom0To60() {
        RopeShore x = spokenOf(61);
        Due.is("0 DAYS on", x.then(0, 0, 0), 61);
        Due.is("1 DAY on", x.then(0, 1, 0), 60);
        Due.is("59 DAYS on", x.then(0, 59, 0), 2);
        Due.is("60 DAYS on", x.then(0, 60, 0), 1);
        Due.is("61 DAYS on", x.then(0, 61, 0), Due.BEYOND);
        Due.is("a DAY before", x.then(0, -1, 0), Due.BEYOND);
        Due.is("now still", x.personIs(0, 4), 61);
    }

    private static void thenOfLost() {
        RopeShore x = Due.shore(0, 30, 0);
        x.tells(1, 0, 30);
        x.swim(0, 31);
        Due.is("not LOST 0 DAYS on", x.then(0, 0, 1), 0);
        Due.is("LOST 1 DAY on", x.then(0, 1, 1), 1);
        Due.is("LOST 60 DAYS on", x.then(0, 60, 1), 1);
        x.swim(0, 30);
        Due.is("not LOST by as much", x.then(0, 60, 1), 0);
        x.days(1);
        x.weather(9);
        Due.is("LOST by a SEA", x.then(0, 1, 1), 1);
        x.days(1);
        Due.is("LOST already", x.then(0, 0, 1), 1);
        Due.is("ROPE of the LOST", x.then(0, 0, 0), 32 + 2);
    }

    private static void thenBeyond9999() {
        RopeShore x = onDay9999(10, 0);
        x.tells(0, 1, 50);
        Due.is("DAY", x.count(2), 9999);
        int said = 50;
        for (int n = 1; n <= 60; n++) {
            said = Math.min(99, said + (9999 + n - 1) % 3 - 1);
            Due.is("DAYS on: " + n, x.then(1, n, 0), said);
        }
        Due.text(x, 1, "d-3");
        said = 50;
        for (int n = 1; n <= 60; n++) {
            said = Math.max(0, Math.min(99, said + (9999 + n - 1) % 7 - 3));
            Due.is("DAYS on, by d: " + n, x.then(1, n, 0), said);
        }
        Due.is("DAY still", x.count(2), 9999);
    }

    private static void cutsBelow() {
        RopeShore x = spokenOf(20, 40);
        Due.is("60 is below 61", x.cuts(0, 61, 0), 0);
        Due.is("60 is below 61, by nobody", x.cuts(0, 61, 1), 0);
        Due.is("60 isn't below 60", x.cuts(0, 60, 0), 1);
        Due.is("40 is below 41", x.cuts(0, 41, 1), 2);
        Due.is("40 isn't below 40", x.cuts(0, 40, 1), 4);
        Due.is("20 is below 21", x.cuts(0, 21, 1), 4);
        Due.is("20 isn't below 20", x.cuts(0, 20, 0), 2);
        Due.is("20 isn't below 20, by both", x.cuts(0, 20, 1), 6);
        Due.is("0 is below 1", x.cuts(0, 1, 1), 6);
        Due.is("60 is below 500", x.cuts(0, 500, 1), 0);
    }

    private static void cutsOfNobody() {
        RopeShore x = Due.shore(0);
        Due.is("one alone, for 1", x.cuts(0, 1, 0), 0);
        Due.is("one alone, for 500", x.cuts(0, 500, 1), 0);
        x.person(0);
        Due.is("one who says 0", x.cuts(0, 1, 1), 0);
        RopeShore y = new RopeShore();
        for (int i = 0; i < 8; i++) {
            y.person(0);
        }
        Due.text(y, 0, "199");
        Due.is("7 give 1393", y.personIs(0, 4), 1393);
        Due.is("2 of 7 are below 500", y.cuts(0, 500, 0), 5);
        Due.is("the least 5", y.cuts(0, 500, 1), 2 + 4 + 8 + 16 + 32);
        Due.is("all of 7", y.cuts(7, 1, 1), 127);
        Due.is("1 of 7 is below 200", y.cuts(7, 200, 1), 63);
        Due.is("1 of 7 isn't below 199", y.cuts(7, 199, 0), 7);
    }

    private static void cutsLeast() {
        RopeShore x = spokenOf(30, 30, 30);
        Due.is("the least of three", x.cuts(0, 61, 1), 2);
        Due.is("the least two of three", x.cuts(0, 31, 1), 6);
        x.tells(1, 0, 0);
        Due.is("who says 0 isn't among them", x.cuts(0, 1, 1), 12);
        x.tells(1, 0, 60);
        Due.is("one rather than two of less", x.cuts(0, 61, 1), 2);
        x.tells(3, 0, 90);
        Due.is("the greater one, if only that will do", x.cuts(0, 91, 1), 8);
    }

    private static void haulsOrMore() {
        RopeShore x = spokenOf(40, 20);
        Due.is("20 is 20", x.hauls(0, 20, 1), 2);
        Due.is("40 is 40", x.hauls(0, 40, 1), 2);
        Due.is("40 isn't 41", x.hauls(0, 41, 1), 6);
        Due.is("60 is 60", x.hauls(0, 60, 0), 2);
        Due.is("60 isn't 61", x.hauls(0, 61, 0), Due.NONE);
        Due.is("60 isn't 61, of the set", x.hauls(0, 61, 1), Due.NONE);
        x.tells(1, 0, 1);
        x.tells(2, 0, 0);
        Due.is("1 is 1", x.hauls(0, 1, 1), 2);
        Due.is("1 isn't 2", x.hauls(0, 2, 1), Due.NONE);
        x.tells(1, 0, 0);
        Due.is("0 isn't 1", x.hauls(0, 1, 0), Due.NONE);
        RopeShore y = spokenOf(0, 0, 0);
        Due.text(y, 0, "199-(t>0)");
        Due.is("597 is 500", y.hauls(0, 500, 1), 14);
        y.swim(3, 1);
        Due.is("398 is 398", y.hauls(0, 398, 1), 6);
        Due.is("398 isn't 399", y.hauls(0, 399, 1), Due.NONE);
    }

    private static void haulsLeast() {
        RopeShore x = spokenOf(30, 30, 30);
        Due.is("the least of three", x.hauls(0, 30, 1), 2);
        Due.is("the least two of three", x.hauls(0, 31, 1), 6);
        Due.is("all three", x.hauls(0, 61, 1), 14);
        x.tells(1, 0, 29);
        Due.is("not who has less", x.hauls(0, 30, 1), 4);
        x.tells(3, 0, 60);
        Due.is("one rather than two of less", x.hauls(0, 60, 1), 8);
    }

    private static void handsAreAshore() {
        RopeShore x = spokenOf(30, 20);
        x.swim(1, 1);
        Due.is("CUTS by who is OUT 1", x.cuts(0, 21, 1), 0);
        Due.is("CUTS by who is OUT 0", x.cuts(0, 20, 1), 4);
        Due.is("HAULS by who is OUT 1", x.hauls(0, 21, 1), Due.NONE);
        Due.is("HAULS by who is OUT 0", x.hauls(0, 20, 1), 4);
        x.swim(0, 500);
        Due.is("CUTS of who is OUT", x.cuts(0, 20, 1), 4);
        Due.is("HAULS of who is OUT", x.hauls(0, 20, 1), 4);
    }

    private static void handsOfWidowsAbove50() {
        RopeShore x = Due.shore(0, 60);
        x.tells(1, 0, 30);
        int[] out = {0, 50, 51, 500};
        int[] rope = {30, 30, 60, 60};
        for (int i = 0; i < out.length; i++) {
            x.swim(0, out[i]);
            Due.is("CUTS, OUT " + out[i], x.cuts(0, rope[i], 1), 2);
            Due.is("CUTS of more, OUT " + out[i], x.cuts(0, rope[i] + 1, 1), 0);
            Due.is("HAULS, OUT " + out[i], x.hauls(0, rope[i], 1), 2);
            Due.is("HAULS of more, OUT " + out[i], x.hauls(0, rope[i] + 1, 1), Due.NONE);
            Due.is("ODDS, OUT " + out[i], x.odds(0, rope[i], 1), 10);
            Due.is("ODDS of more, OUT " + out[i], x.odds(0, rope[i] + 1, 1), 1);
            Due.is("THEN, OUT " + out[i], x.then(0, 0, 0), rope[i]);
        }
    }

    private static void partyOrMore() {
        RopeShore x = spokenOf(40, 20);
        Due.is("60 is 60", x.party(60, 1), 1);
        Due.is("60 is 60, one", x.party(60, 0), 1);
        Due.is("60 isn't 61", x.party(61, 0), 0);
        Due.is("60 isn't 61, no set", x.party(61, 1), 0);
        Due.is("60 is 1", x.party(1, 1), 1);
        RopeShore y = Due.shore(0, 0, 0, 0, 0, 0);
        Due.text(y, 0, "100");
        Due.is("500 is 500", y.party(500, 1), 1);
        y.weather(1);
        Due.is("500 isn't 505", y.party(500, 1), 0);
        Due.is("500 is 500 by a SEA", y.party(495, 1), 1);
        Due.is("400 is 400 by a SEA", y.party(395, 1), 3);
        Due.is("400 isn't 401 by a SEA", y.party(396, 1), 1);
    }

    private static void partyBySea() {
        RopeShore x = spokenOf(90);
        for (int sea = 0; sea <= 9; sea++) {
            x.weather(sea);
            Due.is("SEA " + sea, x.party(90 - 5 * sea, 1), 1);
            Due.is("SEA " + sea + ", and 1", x.party(91 - 5 * sea, 1), 0);
        }
    }

    private static void partyOfNobody() {
        RopeShore x = new RopeShore();
        Due.is("no PEOPLE", x.party(1, 0), 0);
        Due.is("no PEOPLE, no set", x.party(500, 1), 0);
        x.person(9);
        Due.text(x, 0, "199");
        Due.is("one alone has no ROPE", x.party(1, 0), 0);
        x.person(9);
        Due.is("one of two", x.party(199, 1), 1);
        Due.is("not 200", x.party(200, 1), 0);
    }

    private static void partyOfAllButOne() {
        RopeShore x = Due.shore(0, 0, 0, 0, 0, 0, 0, 0);
        Due.text(x, 0, "50");
        for (int n = 1; n <= 7; n++) {
            Due.is("so many for " + 50 * n, x.party(50 * n, 0), 8 - n);
            Due.is("the least for " + 50 * n, x.party(50 * n, 1), (1 << 8 - n) - 1);
        }
        Due.is("nobody for 351", x.party(351, 0), 0);
        x.untell(0);
        for (int i = 0; i < 7; i++) {
            x.tells(7, i, 10);
        }
        Due.is("all but the last", x.party(10, 1), 127);
        for (int i = 0; i < 7; i++) {
            x.tells(7, i, 0);
            x.tells(0, i + 1, 10);
        }
        Due.is("all but the first", x.party(10, 1), 254);
    }

    private static void partyLeast() {
        RopeShore x = Due.shore(0, 0, 0, 0);
        x.tells(3, 0, 9);
        x.tells(3, 1, 10);
        x.tells(3, 2, 10);
        x.tells(0, 3, 10);
        x.tells(1, 3, 9);
        Due.is("two of them", x.party(10, 1), 2 + 4);
        x.tells(0, 2, 10);
        Due.is("the least two", x.party(10, 1), 2 + 4);
        x.tells(3, 1, 0);
        Due.is("by others", x.party(10, 1), 4 + 8);
        x.tells(0, 1, 10);
        Due.is("three", x.party(10, 1), 2 + 4 + 8);
    }

    private static void partyNoneLost() {
        RopeShore x = Due.shore(0, 0, 0);
        x.swim(0, 1);
        x.days(1);
        x.tells(0, 1, 50);
        x.tells(1, 0, 50);
        x.tells(1, 2, 40);
        Due.is("not the LOST, though there is ROPE for one", x.party(40, 1), 4);
        Due.is("not by the LOST", x.party(41, 1), 0);
        x.saves(0);
        Due.is("not LOST any more", x.party(41, 1), 1);
        Due.is("together", x.party(40, 1), 1 + 4);
    }

    private static void partyAsNow() {
        RopeShore x = Due.shore(60, 0, 0);
        x.tells(0, 1, 30);
        Due.is("a WIDOW's, for one who'd be OUT", x.party(51, 1), 0);
        x.swim(1, 50);
        Due.is("a WIDOW's, OUT 50 now", x.party(31, 1), 0);
        x.swim(1, 51);
        Due.is("a WIDOW's, OUT 51 now", x.party(60, 1), 2);
        Due.is("not more than that", x.party(61, 1), 0);
        x.swim(0, 500);
        Due.is("a WIDOW who is OUT, as if ASHORE", x.party(60, 1), 2);
    }

    private static void speaks99AtMost() {
        int[] said = {0, 88, 89, 90, 98, 99};
        int[] more = {10, 10, 10, 9, 1, 0};
        for (int i = 0; i < said.length; i++) {
            RopeShore x = spokenOf(said[i]);
            Due.is("who, of " + said[i], x.speaks(0, 0), 1);
            Due.is("10 more than " + said[i], x.speaks(0, 1), more[i]);
            Due.is("only thought", x.personIs(0, 4), said[i]);
        }
        RopeShore x = Due.shore(0, 35);
        int[] tied = {4, 5, 14, 15, 89, 90};
        int[] gains = {0, 15, 24, 10, 10, 9};
        for (int i = 0; i < tied.length; i++) {
            x.tells(1, 0, tied[i]);
            Due.is("a CUTTER's of " + tied[i], x.speaks(0, 1), gains[i]);
        }
        Due.text(x, 0, "199-(t<99)");
        x.tells(1, 0, 89);
        Due.is("to 99", x.speaks(0, 1), 1);
        x.tells(1, 0, 88);
        Due.is("to 98", x.speaks(0, 1), 0);
    }

    private static void speaksOfOneAbove50() {
        RopeShore x = Due.shore(0, 0, 60);
        x.tells(1, 0, 50);
        x.tells(2, 0, 50);
        for (int out : new int[] {0, 50, 51, 500}) {
            x.swim(0, out);
            Due.is("who, OUT " + out, x.speaks(0, 0), out > 50 ? 2 : 1);
            Due.is("by how much, OUT " + out, x.speaks(0, 1), out > 50 ? 20 : 10);
        }
        x.tells(2, 0, 95);
        Due.is("a WIDOW's 4 more", x.speaks(0, 0), 1);
        x.tells(2, 0, 94);
        Due.is("a WIDOW's 5 more", x.speaks(0, 0), 1);
        x.tells(2, 0, 93);
        Due.is("a WIDOW's 6 more", x.speaks(0, 0), 2);
    }

    private static void speaksLeast() {
        RopeShore x = spokenOf(50, 50, 50);
        Due.is("the least of three", x.speaks(0, 0), 1);
        x.tells(1, 0, 90);
        Due.is("of two", x.speaks(0, 0), 2);
        x.tells(2, 0, 90);
        Due.is("the most", x.speaks(0, 0), 3);
        x.tells(3, 0, 91);
        Due.is("by 9 each", x.speaks(0, 0), 1);
        x.tells(1, 0, 99);
        x.tells(2, 0, 99);
        x.tells(3, 0, 99);
        Due.is("by 0 each", x.speaks(0, 0), 1);
        Due.is("by 0", x.speaks(0, 1), 0);
        x.swim(1, 1);
        Due.is("of those ASHORE", x.speaks(0, 0), 2);
        Due.is("of the first of them, for another", x.speaks(3, 0), 0);
    }

    private static void speaksAnyNumber() {
        RopeShore x = spokenOf(50, 50);
        Due.text(x, 0, "(t>50)*199");
        Due.is("the most there is", x.speaks(0, 1), 199);
        Due.text(x, 0, "(t=50)*199");
        Due.is("the least there is", x.speaks(0, 1), -199);
        Due.is("the least of two who make it less", x.speaks(0, 0), 1);
        x.tells(1, 0, 51);
        Due.is("who makes it no less", x.speaks(0, 0), 1);
        x.tells(1, 0, 40);
        Due.is("who makes it more", x.speaks(0, 1), 199);
        x.tells(2, 0, 51);
        x.tells(1, 0, 50);
        Due.is("who makes it no less, too", x.speaks(0, 0), 2);
    }

    private static void odds(RopeShore x, int far, int above, int below) {
        Due.is("above, for " + far, x.odds(0, far, 0), above);
        Due.is("below, for " + far, x.odds(0, far, 1), below);
    }

    private static void oddsNoMore() {
        RopeShore x = spokenOf(60);
        odds(x, 60, 1, 10);
        odds(x, 61, 0, 1);
        odds(x, 56, 1, 10);
        odds(x, 55, 1, 5);
        odds(x, 15, 1, 1);
        odds(x, 16, 9, 10);
        odds(x, 0, 1, 1);
        odds(x, 500, 0, 1);
        RopeShore y = Due.shore(0);
        odds(y, 0, 1, 10);
        odds(y, 1, 0, 1);
        RopeShore z = Due.shore(0, 0, 0, 0);
        Due.text(z, 0, "199");
        odds(z, 500, 1, 1);
    }

    private static void oddsInLowestTerms() {
        int[] above = {0, 1, 1, 3, 2, 1, 3, 7, 4, 9, 1};
        int[] below = {1, 10, 5, 10, 5, 2, 5, 10, 5, 10, 1};
        for (int seas = 0; seas <= 10; seas++) {
            RopeShore x = Due.shore(0, 0);
            Due.text(x, 0, "(s<" + seas + ")*199");
            odds(x, 46, above[seas], below[seas]);
        }
    }

    private static void oddsByThatSea() {
        RopeShore x = Due.shore(0, 0);
        Due.text(x, 0, "(s=9)*95+(s=0)*50");
        odds(x, 50, 1, 5);
        odds(x, 51, 0, 1);
        odds(x, 0, 1, 5);
        for (int sea = 0; sea <= 9; sea++) {
            x.weather(sea);
            odds(x, 50, 1, 5);
            Due.is("SEA stays", x.count(1), sea);
        }
        x.swim(1, 1);
        odds(x, 1, 0, 1);
    }

    private static void fitsFrom0To60() {
        RopeShore x = spokenOf(80);
        for (int behind = 0; behind <= 60; behind++) {
            Due.sheet(x, 0, 16, 80 - behind);
            Due.is("behind " + behind, x.fits(0), behind);
        }
        Due.sheet(x, 0, 16, 19);
        Due.is("behind 61", x.fits(0), Due.NONE);
        Due.sheet(x, 0, 16, 81);
        Due.is("before", x.fits(0), Due.NONE);
        Due.is("DAY", x.count(2), 0);
    }

    private static void fitsFirst() {
        RopeShore x = spokenOf(3);
        Due.sheet(x, 0, 8, 0);
        Due.is("the first of many", x.fits(0), 3);
        Due.text(x, 1, "(d=0)-(d=1)");
        Due.sheet(x, 0, 8, 3);
        Due.is("now, and again", x.fits(0), 0);
        x.days(1);
        Due.is("again", x.fits(0), 1);
    }

    private static void fitsBeyond9999() {
        RopeShore x = onDay9999(0, 0);
        x.tells(1, 0, 70);
        Due.sheet(x, 0, 8, 10);
        Due.is("on DAY 10059", x.fits(0), 60);
        Due.sheet(x, 0, 8, 70);
        Due.is("on DAY 9999", x.fits(0), 0);
        Due.sheet(x, 0, 8, 69);
        Due.is("on DAY 10000", x.fits(0), 1);
        Due.sheet(x, 0, 8, 9);
        Due.is("on DAY 10060", x.fits(0), Due.NONE);
        Due.is("DAY", x.count(2), 9999);
    }

    private static void fitsOfNumbers() {
        RopeShore x = spokenOf(3, 2);
        x.sheet(0, 8, 0);
        Due.is("no numbers", x.fits(0), 0);
        Due.sheet(x, 0, 8, 5);
        Due.is("fewer numbers than PEOPLE", x.fits(0), 0);
        Due.sheet(x, 0, 8, 5, 0, 0);
        Due.is("as many numbers as PEOPLE", x.fits(0), 0);
        Due.sheet(x, 0, 8, 5, 0, 1);
        Due.is("the last isn't so", x.fits(0), Due.NONE);
        Due.sheet(x, 0, 8, 5, 0, 0, 0);
        Due.is("more numbers than PEOPLE", x.fits(0), Due.NONE);
        RopeShore none = new RopeShore();
        none.sheet(0, 8, 0);
        Due.is("no PEOPLE, no numbers", none.fits(0), 0);
        none.sheet(0, 8, 1);
        Due.is("no PEOPLE, a number", none.fits(0), Due.NONE);
        RopeShore all = Due.shore(0, 0, 0, 0, 0, 0, 0, 0);
        Due.text(all, 0, "17");
        Due.sheet(all, 0, 16, 119, 119, 119, 119, 119, 119, 119, 119);
        Due.is("of eight", all.fits(0), 0);
        all.put(0, 7, 118);
        Due.is("of eight, the last isn't so", all.fits(0), Due.NONE);
    }
}
