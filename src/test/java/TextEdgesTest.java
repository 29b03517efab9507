/**
 * The sentences of the document's chapter 2 of Terms, and of promises 11 to 14, that name a boundary
 * case, one test for each: what stands on each side.
 */
public final class TextEdgesTest {
    private static final String SIXTY = "1+1+1+1+1+1+1+1+1+1+1+1+1+1+1+1+1+1+1+1+1+1+1+1+1+1+1+1+1+15";

    public static void main(String[] args) {
        lowestBytesLowestFirst();
        tapeIsAtMost60();
        numbersHave1To4Digits();
        oneComparisonOnly();
        noBlanks();
        atMostFiveAreOpen();
        eachSignAtTheEnds();
        signsThatAreNone();
        namesOfTheirUse();
        intsWrap();
        by0Is0();
        whatIsNot0IsTrue();
        signsAre1Or0();
        allIsWorkedOut();
        leftFirst();
        faultAtEachPlace();
        tooEarly();
        faultIsNoError();
        inPlaceOfOneAhead();
        ropeIsHeld();
        changeIsHeld();
        restOfDayBy7();
        seaInTexts();
        Due.end("TextEdgesTest");
    }

    private static void lowestBytesLowestFirst() {
        String digits = "12345678";
        for (int n = 1; n <= 8; n++) {
            RopeShore x = new RopeShore();
            Due.is("of eight the lowest " + n, x.feed(0x3837363534333231L, n), n);
            Due.is("none of the others", x.count(3), n);
            Due.is("they are as they stood", x.text(0), n <= 4 ? 1 : -14);
            int due = n <= 4 ? Math.min(199, Integer.parseInt(digits.substring(0, n))) : 0;
            Due.is("and give", x.law(0, 0, 0, 0), due);
        }
        RopeShore x = new RopeShore();
        Due.is("the highest byte", x.feed(0x312b312b312b312bL, 8), 8);
        Due.is("'+' is the lowest", x.text(0), -10);
        x.feed(0x312b312b312b3131L, 8);
        Due.is("a byte on both sides", x.text(0), 1);
        Due.is("11+1+1+1", x.law(0, 0, 0, 0), 14);
        x.feed(0x80000000000000ffL, 8);
        Due.is("bytes above 127", x.text(0), -10);
        x.feed(-1L, 8);
        Due.is("bytes of -1", x.count(3), 8);
    }

    private static void tapeIsAtMost60() {
        RopeShore x = new RopeShore();
        for (int fed = 1; fed <= 60; fed++) {
            Due.is("byte by byte", x.feed(fed % 2 == 1 ? '1' : '+', 1), fed);
        }
        Due.is("the 61st", x.feed('1', 1), Due.FULL);
        Due.is("there are 60", x.count(3), 60);
        Due.is("60 bytes end too early", x.text(0), -70);
        Due.is("THE TAPE is empty", x.count(3), 0);
        Due.is("60 bytes again", Due.feed(x, SIXTY), 60);
        Due.is("60 bytes are a TEXT", x.text(0), 1);
        Due.is("and give", x.law(0, 0, 0, 0), 44);
        Due.is("a FAULT at the last place", Due.text(x, 0, SIXTY.substring(0, 59) + "g"), -69);
        Due.is("the one ahead stays", x.law(0, 0, 0, 0), 44);
        String bangs = "1+!!!!!1+!!!!!1+!!!!!1+!!!!!1+!!!!!1+!!!!!1+!!!!!1+!!!!!1+!1";
        Due.is("as many ! as 60 bytes hold", Due.text(x, 0, bangs), 1);
        Due.is("and give", x.law(0, 0, 0, 0), 1);
    }

    private static void numbersHave1To4Digits() {
        gives("0", 0);
        gives("9", 9);
        gives("0000", 0);
        gives("0199", 199);
        gives("9999-9900", 99);
        fault("00000", 4);
        fault("99999", 4);
        fault("123456", 4);
        fault("1+12345", 6);
        fault("(12345)", 5);
        fault("!12345", 5);
    }

    private static void oneComparisonOnly() {
        for (char first : "<=>".toCharArray()) {
            gives("(3" + first + "3)+5", first == '=' ? 6 : 5);
            for (char second : "<=>".toCharArray()) {
                fault("3" + first + "3" + second + "3", 3);
                gives("0|3" + first + "3&2" + second + "2|0", first == '=' && second == '=' ? 1 : 0);
                int left = first == '=' ? 1 : 0;
                gives("(3" + first + "3)" + second + "0", (second == '>' ? left > 0 : second == '=' && left == 0) ? 1 : 0);
            }
        }
    }

    private static void noBlanks() {
        fault(" g+1", 0);
        fault("g +1", 1);
        fault("g+ 1", 2);
        fault("g+1 ", 3);
        fault("( g)", 1);
        fault("(g )", 2);
        fault("! g", 1);
        fault("1 2", 1);
        fault(" ", 0);
    }

    private static void atMostFiveAreOpen() {
        String open = "((((((";
        String shut = "))))))";
        for (int n = 1; n <= 5; n++) {
            gives(open.substring(0, n) + "7" + shut.substring(0, n), 7);
            gives("!!!!!".substring(0, n) + "7", n % 2 == 0 ? 1 : 0);
            gives(open.substring(0, 5 - n) + "!!!!!".substring(0, n) + "0" + shut.substring(0, 5 - n), n % 2);
            fault(open.substring(0, 6 - n) + "!!!!!".substring(0, n) + "0" + shut.substring(0, 6 - n), 5);
            fault("!!!!!".substring(0, n) + open.substring(0, 6 - n) + "0" + shut.substring(0, 6 - n), 5);
        }
        fault("((((((7))))))", 5);
        fault("!!!!!!7", 5);
        gives("(((((7)))))+(((((7)))))", 14);
        gives("!!!!!7+!!!!!0", 1);
        gives("(((((7))))+!1)", 7);
        gives("((((!1+!1+!1+(7)))))", 7);
        fault("(((((!1)))))", 5);
        fault("(((((7+(1))))))", 7);
        fault("1+((((((1))))))", 7);
        fault("((((((", 5);
        fault("!!!!!!", 5);
        fault("(((((", 5);
        fault("!!!!!", 5);
    }

    private static void eachSignAtTheEnds() {
        for (char sign : "|&<=>+-*/%".toCharArray()) {
            fault("" + sign, 0);
            fault(sign + "1", 0);
            fault("1" + sign, 2);
            fault("1" + sign + sign + "1", 2);
            fault("1" + sign + ")", 2);
            fault("(" + sign + "1)", 1);
            fault("!" + sign + "1", 1);
        }
        fault(")", 0);
        fault("!)", 1);
        fault("(", 1);
        fault("()", 1);
        fault("1!", 1);
        fault("1(", 1);
        fault("(1)(", 3);
        fault("(1)1", 3);
        fault("(1)g", 3);
        fault("1)", 1);
        fault("(1))", 3);
        fault("((1)", 4);
        fault("g1", 1);
        fault("gg", 1);
        fault("1g", 1);
    }

    /** Each byte that begins no TEXT, and those that do. */
    private static void signsThatAreNone() {
        for (int sign = 0; sign < 256; sign++) {
            RopeShore x = new RopeShore();
            x.feed(sign, 1);
            boolean single = sign >= '0' && sign <= '9' || sign == 'g' || sign == 't' || sign == 's';
            boolean opens = sign == '!' || sign == '(';
            Due.is("byte " + sign, x.text(0), single ? 1 : opens ? -11 : -10);
            RopeShore y = new RopeShore();
            y.feed('1', 1);
            y.feed(sign | 0x3100L, 2);
            boolean joins = sign < 128 && "|&<=>+-*/%0123456789".indexOf(sign) >= 0;
            Due.is("byte " + sign + " between", y.text(1), joins ? 1 : -11);
        }
    }

    private static void namesOfTheirUse() {
        for (char name : "gtscld".toCharArray()) {
            boolean ropes = "gts".indexOf(name) >= 0;
            for (int use = 0; use < 2; use++) {
                RopeShore x = new RopeShore();
                Due.is(name + " in USE " + use, Due.text(x, use, "" + name), ropes == (use == 0) ? 1 : -10);
                Due.is(name + " behind others in USE " + use, Due.text(x, use, "1+" + name), ropes == (use == 0) ? 1 : -12);
            }
        }
        RopeShore x = new RopeShore();
        Due.is("g, t, s in order", Due.text(x, 0, "g*100+t*10+s"), 1);
        Due.is("are a, b, c", x.law(0, 1, 2, 3), 123);
        Due.is("c, l, d in order", Due.text(x, 1, "c*4+l*2+d"), 1);
        Due.is("are a, b, c", x.law(1, 1, -2, 3), 3);
    }

    /** What a TEXT of the NAMES a, b, c is, held within -9 .. 9. */
    private static void works(String text, int a, int b, int due) {
        RopeShore x = new RopeShore();
        Due.is("'" + text + "'", Due.text(x, 1, text), 1);
        Due.is("'" + text + "' of " + a + ", " + b, x.law(1, a, b, 0), due);
    }

    private static void intsWrap() {
        works("c+1<0", Due.MAX, 0, 1);
        works("c+1-l", Due.MAX, Due.MIN, 0);
        works("c-1>0", Due.MIN, 0, 1);
        works("c-1-l", Due.MIN, Due.MAX, 0);
        works("0-c-l", Due.MIN, Due.MIN, 0);
        works("c*2", Due.MIN, 0, 0);
        works("c*l", 65536, 65536, 0);
        works("c*l", Due.MAX, Due.MAX, 1);
        works("c*l-l", -1, Due.MIN, 0);
        works("c/l-c", Due.MIN, -1, 0);
        works("c%l", Due.MIN, -1, 0);
        works("9999*9999*9999-l", 0, 9999 * 9999 * 9999, 0);
        works("c<l", Due.MIN, Due.MAX, 1);
        works("c>l", Due.MIN, Due.MAX, 0);
        works("c=l", Due.MIN, Due.MAX, 0);
    }

    private static void by0Is0() {
        for (int a : new int[] {0, 1, -1, Due.MIN, Due.MAX}) {
            works("c/l+5", a, 0, 5);
            works("c%l+5", a, 0, 5);
            works("c/(l-l)*7+4", a, 3, 4);
        }
        works("7/0", 0, 0, 0);
        works("7%0", 0, 0, 0);
        works("0/7", 0, 0, 0);
        works("0%7", 0, 0, 0);
    }

    private static void whatIsNot0IsTrue() {
        for (int a : new int[] {1, -1, 2, 256, 65536, Due.MIN, Due.MAX}) {
            works("c&1", a, 0, 1);
            works("1&c", a, 0, 1);
            works("c|0", a, 0, 1);
            works("0|c", a, 0, 1);
            works("!c", a, 0, 0);
            works("!!c", a, 0, 1);
        }
        works("c&1", 0, 0, 0);
        works("1&c", 0, 0, 0);
        works("c|0", 0, 0, 0);
        works("!c", 0, 0, 1);
        works("c&l", 1, 2, 1);
        works("c&l", 4, 8, 1);
    }

    private static void signsAre1Or0() {
        for (int a = -2; a <= 2; a++) {
            for (int b = -2; b <= 2; b++) {
                works("c|l", a, b, a != 0 || b != 0 ? 1 : 0);
                works("c&l", a, b, a != 0 && b != 0 ? 1 : 0);
                works("c<l", a, b, a < b ? 1 : 0);
                works("c=l", a, b, a == b ? 1 : 0);
                works("c>l", a, b, a > b ? 1 : 0);
                works("!c", a, b, a == 0 ? 1 : 0);
            }
        }
    }

    private static void allIsWorkedOut() {
        works("1|c/l", 5, 0, 1);
        works("0&c/l", 5, 0, 0);
        works("0&(1|c%l)", 5, 0, 0);
        works("c/l|c%l", 5, 0, 0);
    }

    private static void leftFirst() {
        works("9-5-3", 0, 0, 1);
        works("9-(5-3)", 0, 0, 7);
        works("9-5+3", 0, 0, 7);
        works("80/4/5", 0, 0, 4);
        works("80/(20/5)/5", 0, 0, 4);
        works("7*9%5", 0, 0, 3);
        works("7%5*3", 0, 0, 6);
        works("9%5/2", 0, 0, 2);
        works("2+3*2", 0, 0, 8);
        works("!0*7", 0, 0, 7);
        works("!1+7", 0, 0, 7);
        works("1<2+3", 0, 0, 1);
        works("2=2&3", 0, 0, 1);
        works("1|0&0", 0, 0, 1);
        works("(1|0)&0", 0, 0, 0);
        works("0&0|1", 0, 0, 1);
    }

    private static void faultAtEachPlace() {
        String text = "g+(t*!s)";
        for (int place = 0; place < text.length(); place++) {
            fault(text.substring(0, place) + "#" + text.substring(place), place);
        }
        fault(text + "#", text.length());
        for (int n : new int[] {0, 2, 3, 5, 6, 7}) {
            fault(text.substring(0, n), n);
        }
        gives(text, 50);
    }

    private static void tooEarly() {
        fault("", 0);
        fault("g+", 2);
        fault("(g", 2);
        fault("(((((g))))", 10);
        fault("!", 1);
        fault("g<", 2);
        fault("g&", 2);
        fault("9999+", 5);
    }

    private static void faultIsNoError() {
        RopeShore x = new RopeShore();
        Due.is("an empty TAPE", x.text(0), -10);
        Due.is("an empty TAPE", x.text(1), -10);
        Due.is("a FAULT", Due.text(x, 1, "c c"), -11);
        for (int k = 1; k <= 6; k++) {
            Due.is("told(" + k + ")", x.told(k), 0);
        }
    }

    private static void inPlaceOfOneAhead() {
        for (int use = 0; use < 2; use++) {
            RopeShore x = new RopeShore();
            Due.is("a long one", Due.text(x, use, "1+1+1+1+1"), 1);
            Due.is("a short one", Due.text(x, use, "7"), 1);
            Due.is("gives", x.law(use, 0, 0, 0), 7);
            Due.is("one that isn't whole", Due.text(x, use, "3+3+"), -14);
            Due.is("the one ahead gives", x.law(use, 0, 0, 0), 7);
            Due.is("an empty one", x.text(use), -10);
            Due.is("the one ahead gives still", x.law(use, 0, 0, 0), 7);
            Due.is("the other USE has none", x.law(1 - use, 5, 0, 0), 5);
            Due.feed(x, "8");
            Due.is("no USE", x.text(2), Due.BEYOND);
            Due.is("THE TAPE stays", x.count(3), 1);
            Due.is("and is read then", x.text(use), 1);
            Due.is("and gives", x.law(use, 0, 0, 0), 8);
            Due.is("it was there", x.untell(use), 1);
            Due.is("it isn't any more", x.untell(use), 0);
            Due.is("without one", x.law(use, 6, 0, 0), 6);
        }
    }

    private static void ropeIsHeld() {
        for (int time = 0; time < 2; time++) {
            RopeShore x = new RopeShore();
            if (time == 1) {
                Due.text(x, 0, "g");
            }
            int[] asked = {Due.MIN, -1, 0, 1, 198, 199, 200, Due.MAX};
            int[] held = {0, 0, 0, 1, 198, 199, 199, 199};
            for (int i = 0; i < asked.length; i++) {
                Due.is("ROPE of " + asked[i], x.law(0, asked[i], 3, 3), held[i]);
            }
        }
        RopeShore x = Due.shore(0, 0);
        x.tells(0, 1, 99);
        Due.text(x, 0, "g*2+1");
        Due.is("ROPE at most", x.rope(0, 1), 199);
        Due.text(x, 0, "g*2+2");
        Due.is("ROPE above", x.rope(0, 1), 199);
        Due.is("ROPE of one, too", x.personIs(1, 4), 199);
        Due.text(x, 0, "99-g");
        Due.is("ROPE at least", x.rope(0, 1), 0);
        Due.text(x, 0, "98-g");
        Due.is("ROPE below", x.rope(0, 1), 0);
    }

    private static void changeIsHeld() {
        for (int time = 0; time < 2; time++) {
            RopeShore x = new RopeShore();
            if (time == 1) {
                Due.text(x, 1, "c");
            }
            int[] asked = {Due.MIN, -10, -9, -8, 0, 8, 9, 10, Due.MAX};
            int[] held = {-9, -9, -9, -8, 0, 8, 9, 9, 9};
            for (int i = 0; i < asked.length; i++) {
                Due.is("CHANGE of " + asked[i], x.law(1, asked[i], 3, 3), held[i]);
            }
        }
    }

    private static void restOfDayBy7() {
        RopeShore x = Due.shore(0, 0);
        Due.text(x, 1, "(d=6)*9+(d=0)*1");
        for (int d = 0; d < 15; d++) {
            x.tells(0, 1, 50);
            x.days(1);
            Due.is("d on DAY " + d, x.rope(0, 1), d % 7 == 6 ? 59 : d % 7 == 0 ? 51 : 50);
        }
    }

    private static void seaInTexts() {
        RopeShore x = Due.shore(40, 0);
        Due.text(x, 0, "s*10+g");
        for (int sea = 0; sea <= 9; sea++) {
            x.weather(sea);
            Due.is("s by SEA " + sea, x.rope(0, 1), 10 * sea + sea);
        }
    }

    private static void gives(String text, int due) {
        RopeShore x = new RopeShore();
        Due.is("'" + text + "'", Due.text(x, 0, text), 1);
        Due.is("'" + text + "' gives", x.law(0, 50, 7, 3), due);
    }

    private static void fault(String text, int place) {
        RopeShore x = new RopeShore();
        Due.text(x, 0, "77");
        Due.is("FAULT of '" + text + "'", Due.text(x, 0, text), -10 - place);
        Due.is("THE TAPE behind '" + text + "'", x.count(3), 0);
        Due.is("the one ahead of '" + text + "'", x.law(0, 0, 0, 0), 77);
    }
}
