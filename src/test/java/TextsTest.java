/** Promises 11 to 14: THE TAPE, TEXTS with their FAULTS, and what they give. */
public final class TextsTest {
    public static void main(String[] args) {
        feed();
        text();
        faults();
        openOnes();
        values();
        untell();
        law();
        inUse();
        Due.end("TextsTest");
    }

    private static void feed() {
        RopeShore x = new RopeShore();
        Due.is("promise 11: none", x.feed(0L, 0), Due.BEYOND);
        Due.is("promise 11: nine", x.feed(0L, 9), Due.BEYOND);
        Due.is("promise 11: below", x.feed(0L, -1), Due.BEYOND);
        Due.is("promise 11: lowest first", x.feed(0x2b31L, 2), 2);
        Due.is("promise 11: only the n lowest", x.feed(0x7f37L, 1), 3);
        Due.is("promise 11: '1+7' was fed", x.text(0), 1);
        Due.is("promise 11: and gives", x.law(0, 0, 0, 0), 8);
        Due.is("promise 11: eight", x.feed(0x3131313131313131L, 8), 8);
        for (int fed = 16; fed <= 56; fed += 8) {
            Due.is("promise 11: up to " + fed, x.feed(0L, 8), fed);
        }
        Due.is("promise 11: five above", x.feed(0L, 5), Due.FULL);
        Due.is("promise 11: none came", x.count(3), 56);
        Due.is("promise 11: the last four", x.feed(0L, 4), 60);
        Due.is("promise 11: one above", x.feed(0L, 1), Due.FULL);
        Due.is("promise 11: nine, and full", x.feed(0L, 9), Due.BEYOND);
        Due.is("promise 11: 1111 and no fifth", x.text(0), -14);
    }

    private static void text() {
        RopeShore x = new RopeShore();
        Due.is("promise 12: empty", x.text(0), -10);
        Due.is("promise 12: a TEXT", Due.text(x, 0, "7"), 1);
        Due.is("promise 12: is there", x.law(0, 1, 1, 1), 7);
        Due.is("promise 12: in its place", Due.text(x, 0, "s"), 1);
        Due.is("promise 12: the other one", x.law(0, 1, 2, 3), 3);
        Due.feed(x, "g+");
        Due.is("promise 12: no USE", x.text(2), Due.BEYOND);
        Due.is("promise 12: no USE below", x.text(-1), Due.BEYOND);
        Due.is("promise 12: THE TAPE stays", x.count(3), 2);
        Due.is("promise 12: FAULT", x.text(0), -12);
        Due.is("promise 12: THE TAPE is empty", x.count(3), 0);
        Due.is("promise 12: the one ahead stays", x.law(0, 1, 2, 3), 3);
        Due.is("promise 12: a FAULT is no ERROR", x.told(1), 2);
        String sixty = "1+1+1+1+1+1+1+1+1+1+1+1+1+1+1+1+1+1+1+1+1+1+1+1+1+1+1+1+1+15";
        Due.is("promise 12: as long as THE TAPE", Due.text(x, 0, sixty), 1);
        Due.is("promise 12: and gives", x.law(0, 0, 0, 0), 29 + 15);
        String deep = "(1+2*(1+2*(1+2*(1+2*(1+2*s)))))";
        Due.is("promise 12: deep", Due.text(x, 0, deep), 1);
        Due.is("promise 12: and gives", x.law(0, 0, 0, 1), 63);
        String waiting = "0|1&2=3+4*(0|1&2=3+4*(0|1&2=3+4*(0|1&2=3+4*(0|1&2=3+4*s))))";
        Due.is("promise 12: most waits on the stack", Due.text(x, 0, waiting), 1);
        Due.is("promise 12: and gives", x.law(0, 0, 0, 1), 0);
    }

    private static void fault(int use, String text, int place) {
        RopeShore x = new RopeShore();
        Due.is("promise 12: FAULT of '" + text + "'", Due.text(x, use, text), -10 - place);
        Due.is("promise 12: none is there", x.untell(use), 0);
        Due.is("promise 12: empty tape", x.count(3), 0);
    }

    private static void faults() {
        fault(0, "c", 0);
        fault(0, "l", 0);
        fault(0, "d", 0);
        fault(1, "g", 0);
        fault(1, "t", 0);
        fault(1, "s", 0);
        fault(0, "12345", 4);
        fault(0, "1+00000", 6);
        fault(0, "1<2<3", 3);
        fault(0, "1=2>3", 3);
        fault(0, "(1<2=3)", 4);
        fault(0, " 1", 0);
        fault(0, "1 ", 1);
        fault(0, "g t", 1);
        fault(0, "-1", 0);
        fault(0, "1--1", 2);
        fault(0, "1)", 1);
        fault(0, "(1", 2);
        fault(0, "()", 1);
        fault(0, "(1))", 3);
        fault(0, "1!", 1);
        fault(0, "g!1", 1);
        fault(0, "gt", 1);
        fault(0, "1g", 1);
        fault(0, "1(", 1);
        fault(0, "1+", 2);
        fault(0, "1*", 2);
        fault(0, "1|", 2);
        fault(0, "1||2", 2);
        fault(0, "1&&2", 2);
        fault(0, "1==2", 2);
        fault(0, "!", 1);
        fault(0, "(", 1);
        fault(0, "(1+", 3);
        fault(0, "\u00ff", 0);
        fault(0, "1\u00ff", 1);
        fault(0, "1\u0000", 1);
        fault(0, "1\u00ab1", 1);
        fault(0, "G", 0);
    }

    private static void openOnes() {
        RopeShore x = new RopeShore();
        Due.is("promise 12: five (", Due.text(x, 0, "(((((1)))))"), 1);
        Due.is("promise 12: five !", Due.text(x, 0, "!!!!!1"), 1);
        Due.is("promise 12: five of both", Due.text(x, 0, "!(!(!g))"), 1);
        Due.is("promise 12: they are closed again", Due.text(x, 0, "!!!!!1+(((((2)))))*!!!!!3"), 1);
        Due.is("promise 12: ! is closed behind its Q", Due.text(x, 0, "((((!1+(1)))))"), 1);
        fault(0, "((((((1))))))", 5);
        fault(0, "!!!!!!1", 5);
        fault(0, "!(!(!(1)))", 5);
        fault(0, "((((!(1)))))", 5);
        fault(0, "(((((1+!1)))))", 7);
        fault(0, "(((((1+(1))))))", 7);
    }

    private static void gives(String text, int due) {
        RopeShore x = new RopeShore();
        Due.is("promise 12: '" + text + "'", Due.text(x, 0, text), 1);
        Due.is("promise 14: '" + text + "' gives", x.law(0, 50, 7, 3), due);
    }

    private static void values() {
        gives("0007", 7);
        gives("g", 50);
        gives("t", 7);
        gives("s", 3);
        gives("1+2*3", 7);
        gives("(1+2)*3", 9);
        gives("20-5-3", 12);
        gives("100/7/2", 7);
        gives("100%7*3", 6);
        gives("100*7%3", 1);
        gives("9-(0-7)/2", 12);
        gives("9+(0-7)%2", 8);
        gives("9/0+8", 8);
        gives("9%0+8", 8);
        gives("1<2", 1);
        gives("2<1", 0);
        gives("2<2", 0);
        gives("2>1", 1);
        gives("1>2", 0);
        gives("2>2", 0);
        gives("2=2", 1);
        gives("2=1", 0);
        gives("2&4", 1);
        gives("2&0", 0);
        gives("0&2", 0);
        gives("0|4", 1);
        gives("4|0", 1);
        gives("0|0", 0);
        gives("1|1&0", 1);
        gives("(1|1)&0", 0);
        gives("1&2=2", 1);
        gives("1+1=2", 1);
        for (String none : new String[] {"0|0", "1&0", "0&1", "2<2", "2=1", "2>2", "!7", "4/0", "4%0"}) {
            gives("5+(" + none + ")", 5);
        }
        gives("!0+1", 2);
        gives("!9+1", 1);
        gives("!!9", 1);
        gives("!(1<2)", 0);
        gives("5+(!0=1)", 6);
        gives("9999*9999*9999*9999>0", 1);
        gives("9999*9999*30<0", 1);
        gives("((0-9999)*9999-9999*9999)*10+9999*9999*20-1+11", 10);
        gives("9999", 199);
        gives("0-1", 0);
        RopeShore x = new RopeShore();
        Due.text(x, 0, "g/t");
        Due.is("promise 14: the quotient that wraps", x.law(0, Due.MIN, -1, 0), 0);
        Due.text(x, 0, "100+g%t");
        Due.is("promise 14: its rest", x.law(0, Due.MIN, -1, 0), 100);
        Due.text(x, 0, "g-1>0");
        Due.is("promise 14: a difference that wraps", x.law(0, Due.MIN, 0, 0), 1);
    }

    private static void untell() {
        RopeShore x = new RopeShore();
        Due.is("promise 13: none", x.untell(0), 0);
        Due.text(x, 0, "5");
        Due.text(x, 1, "6");
        Due.is("promise 13: was there", x.untell(0), 1);
        Due.is("promise 13: is no more", x.untell(0), 0);
        Due.is("promise 13: g again", x.law(0, 3, 1, 1), 3);
        Due.is("promise 13: the other stays", x.law(1, 3, 1, 1), 6);
        Due.is("promise 13: was there, too", x.untell(1), 1);
        Due.is("promise 13: above", x.untell(2), Due.BEYOND);
        Due.is("promise 13: below", x.untell(-1), Due.BEYOND);
    }

    private static void law() {
        RopeShore x = new RopeShore();
        Due.is("promise 14: g", x.law(0, 77, 1, 2), 77);
        Due.is("promise 14: g at most", x.law(0, 199, 1, 2), 199);
        Due.is("promise 14: g above", x.law(0, 200, 1, 2), 199);
        Due.is("promise 14: g below", x.law(0, -1, 1, 2), 0);
        Due.is("promise 14: the most", x.law(0, Due.MAX, 1, 2), 199);
        Due.is("promise 14: the least", x.law(0, Due.MIN, 1, 2), 0);
        Due.is("promise 14: c", x.law(1, -8, 1, 2), -8);
        Due.is("promise 14: c at most", x.law(1, 9, 1, 2), 9);
        Due.is("promise 14: c above", x.law(1, 10, 1, 2), 9);
        Due.is("promise 14: c at least", x.law(1, -9, 1, 2), -9);
        Due.is("promise 14: c below", x.law(1, -10, 1, 2), -9);
        Due.text(x, 1, "c*0-l+d");
        Due.is("promise 14: c, l, d in order", x.law(1, 5, 2, 6), 4);
        Due.is("promise 14: held above", x.law(1, 0, 0, 10), 9);
        Due.is("promise 14: held below", x.law(1, 0, 10, 0), -9);
        Due.is("promise 14: no USE", x.law(2, 1, 1, 1), Due.BEYOND);
        Due.is("promise 14: no USE below", x.law(-1, 1, 1, 1), Due.BEYOND);
    }

    private static void inUse() {
        RopeShore x = Due.shore(14, 0);
        x.weather(6);
        x.tells(0, 1, 20);
        Due.text(x, 0, "g*2+t-s");
        Due.is("ROPE by a TEXT", x.rope(0, 1), 2 * 24 + 20 - 6);
        Due.is("ROPE of one by it", x.personIs(1, 4), 62);
        x.untell(0);
        Due.text(x, 1, "d-l%3+(c=0-1)*100");
        x.days(1);
        Due.is("CHANGE by a TEXT, held", x.tells(0, 1, 20), 29);
        Due.text(x, 1, "d*(l>10)+c-c");
        x.days(7);
        Due.is("CHANGE by DAYS' rests by 7", x.tells(0, 1, 0), 20 + 1 + 2 + 3 + 4 + 5 + 6);
        Due.is("by what is TOLD", x.tells(1, 0, 0), 9);
    }
}
