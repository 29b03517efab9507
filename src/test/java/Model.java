import java.util.ArrayList;
import java.util.Arrays;
import java.util.List;

/**
 * The document once more, in other words: slow, with the Java library, arrays as the machine has
 * them and texts worked out from their signs. RandomRunsTest holds the program against it.
 */
final class Model {
    private static final class Man {
        int kind;
        int m;
        int out;
        boolean lost;

        Man(int kind, int m, int out, boolean lost) {
            this.kind = kind;
            this.m = m;
            this.out = out;
            this.lost = lost;
        }
    }

    private static final class Parted extends Exception {
        private static final long serialVersionUID = 1;
    }

    private static final int[] UNDER = {-1, 0, 0, 0, 1, 2, 0};
    private static final String[] NAMES = {"gts", "cld"};
    private static final int[][] BODIES = {
        {10, 11, 12, 13}, {20, 0, 0, 21}, {0, 30, 0, 0}, {0, 0, 40, 0}, {50, 0, 51, 0}, {0, 60, 0, 0}, {70, 71, 0, 0}
    };

    private List<Man> men = new ArrayList<>();
    private int[][] says = new int[8][8];
    private int sea = 0;
    private int day = 0;
    private int z = 1;
    private String tape = "";
    private String[] laws = new String[2];
    private List<Integer> waiting = new ArrayList<>();
    private Object[] sheets = new Object[4];
    private int[] told = new int[7];
    private List<Integer> trace = new ArrayList<>();
    private Model image = null;
    private int images = 0;

    /** All that an IMAGE has and nothing else. */
    private Model twin() {
        Model twin = new Model();
        twin.take(this);
        return twin;
    }

    private void take(Model other) {
        men = new ArrayList<>();
        for (Man man : other.men) {
            men.add(new Man(man.kind, man.m, man.out, man.lost));
        }
        for (int i = 0; i < 8; i++) {
            says[i] = other.says[i].clone();
        }
        sea = other.sea;
        day = other.day;
        z = other.z;
        tape = other.tape;
        laws = other.laws.clone();
        waiting = new ArrayList<>(other.waiting);
    }

    private int error(int answer) {
        told[Due.LOW - answer]++;
        return answer;
    }

    private boolean no(int person) {
        return person < 0 || person >= men.size();
    }

    private static boolean off(int v, int least, int most) {
        return v < least || v > most;
    }

    private static int clamp(int v, int least, int most) {
        return v < least ? least : v > most ? most : v;
    }

    // ---- what the document defines

    private int gives(int kind, int m, int said, int out) {
        switch (kind) {
            case 1: return gives(0, m, said, out) + m;
            case 2: return gives(0, m, said, out) / 2 + 10;
            case 3: return gives(0, m, said, out) < 10 + m ? 0 : gives(0, m, said, out);
            case 4: return gives(1, m, said, out) + sea;
            case 5: return gives(2, m, said, out) - m;
            case 6: return (out > 50 ? 2 : 1) * gives(0, m, said, out);
            default: return said;
        }
    }

    private int turns(int kind, int said, int out) {
        switch (kind) {
            case 1: return turns(0, said, out) + day % 3;
            case 2: return 0;
            case 4: return turns(1, said, out) - 1;
            case 5: return turns(2, said, out) + (said < 20 ? 2 : -2);
            case 6: return turns(0, said, out) * 2;
            default: return out > 0 ? 1 : -1;
        }
    }

    private int lawOf(int use, int a, int b, int c) {
        int v = laws[use] == null ? a : worth(laws[use], NAMES[use], a, b, c);
        return use == 0 ? clamp(v, 0, 199) : clamp(v, -9, 9);
    }

    private int ropeIf(int i, int of, int said) {
        Man man = men.get(i);
        return lawOf(0, gives(man.kind, man.m, said, men.get(of).out), said, sea);
    }

    private List<Integer> ashoreBut(int one) {
        List<Integer> ashore = new ArrayList<>();
        for (int i = 0; i < men.size(); i++) {
            if (i != one && men.get(i).out == 0 && !men.get(i).lost) {
                ashore.add(i);
            }
        }
        return ashore;
    }

    private int ropeOf(int one) {
        return ashoreBut(one).stream().mapToInt(i -> ropeIf(i, one, says[i][one])).sum();
    }

    private int pass() {
        List<Man> gone = new ArrayList<>();
        for (int i = 0; i < men.size(); i++) {
            Man man = men.get(i);
            if (man.out > 0 && !man.lost && man.out + 5 * sea > ropeOf(i)) {
                gone.add(man);
            }
        }
        for (Man man : gone) {
            man.lost = true;
        }
        int[][] next = new int[8][8];
        for (int i = 0; i < men.size(); i++) {
            for (int of = 0; of < men.size(); of++) {
                if (i != of) {
                    int said = says[i][of];
                    int turn = turns(men.get(i).kind, said, men.get(of).out);
                    next[i][of] = clamp(said + lawOf(1, turn, said, day % 7), 0, 99);
                }
            }
        }
        says = next;
        day++;
        return gone.size();
    }

    private int draw() {
        z = z * 1103515245 + 12345;
        return z >>> 8;
    }

    // ---- texts, from their signs alone

    /** Whether all of it is a TEXT: parts between innermost ( and ) become an operand, with its depth. */
    static boolean isText(String text, String names) {
        StringBuilder left = new StringBuilder();
        for (int i = 0; i < text.length(); i++) {
            char c = text.charAt(i);
            if (c >= '0' && c <= '9') {
                int from = i;
                while (i + 1 < text.length() && Character.isDigit(text.charAt(i + 1)) && text.charAt(i + 1) < 128) {
                    i++;
                }
                if (i - from >= 4) {
                    return false;
                }
                left.append('A');
            } else if (names.indexOf(c) >= 0) {
                left.append('A');
            } else if ("!()|&<=>+-*/%".indexOf(c) >= 0) {
                left.append(c);
            } else {
                return false;
            }
        }
        for (int close = left.indexOf(")"); close >= 0; close = left.indexOf(")")) {
            int open = left.lastIndexOf("(", close);
            if (open < 0) {
                return false;
            }
            char depth = depthOf(left.substring(open + 1, close));
            if (depth == 0) {
                return false;
            }
            left.replace(open, close + 1, "" + (char) (depth + 1));
        }
        char depth = depthOf(left.toString());
        return depth >= 'A' && depth <= 'F';
    }

    /** How deep the deepest operand of what has no ( is, as a letter; 0 if it is no T. */
    private static char depthOf(String flat) {
        StringBuilder s = new StringBuilder(flat);
        for (int at = s.lastIndexOf("!"); at >= 0; at = s.lastIndexOf("!")) {
            if (at + 1 >= s.length() || s.charAt(at + 1) < 'A' || s.charAt(at + 1) > 'Z') {
                return 0;
            }
            s.replace(at, at + 2, "" + (char) (s.charAt(at + 1) + 1));
        }
        char deepest = 0;
        for (String b : s.toString().split("[|&]", -1)) {
            String[] compared = b.split("[<=>]", -1);
            if (compared.length > 2) {
                return 0;
            }
            for (String side : compared) {
                if (!side.matches("[A-Z]([-+*/%][A-Z])*")) {
                    return 0;
                }
                for (char c : side.toCharArray()) {
                    deepest = c >= 'A' && c > deepest ? c : deepest;
                }
            }
        }
        return deepest;
    }

    /** Whether some TEXT begins so. */
    private static boolean begins(String start, String names) {
        String closed = ")))))";
        for (int n = 0; n <= 5; n++) {
            if (isText(start + closed.substring(0, n), names) || isText(start + "0" + closed.substring(0, n), names)) {
                return true;
            }
        }
        return false;
    }

    static int faultOf(String text, String names) {
        for (int n = 1; n <= text.length(); n++) {
            if (!begins(text.substring(0, n), names)) {
                return n - 1;
            }
        }
        return text.length();
    }

    /** The place of the last of those signs that stands in no ( ), and isn't the first; -1 if none. */
    private static int lastOf(String text, String signs) {
        int depth = 0;
        for (int i = text.length() - 1; i > 0; i--) {
            char c = text.charAt(i);
            depth += c == ')' ? 1 : c == '(' ? -1 : 0;
            if (depth == 0 && signs.indexOf(c) >= 0) {
                return i;
            }
        }
        return -1;
    }

    private static int worth(String text, String names, int a, int b, int c) {
        for (String signs : new String[] {"|", "&", "<=>", "+-", "*/%"}) {
            int at = lastOf(text, signs);
            if (at > 0) {
                int left = worth(text.substring(0, at), names, a, b, c);
                int right = worth(text.substring(at + 1), names, a, b, c);
                return joined(text.charAt(at), left, right);
            }
        }
        if (text.charAt(0) == '!') {
            return worth(text.substring(1), names, a, b, c) == 0 ? 1 : 0;
        }
        if (text.charAt(0) == '(') {
            return worth(text.substring(1, text.length() - 1), names, a, b, c);
        }
        int name = names.indexOf(text.charAt(0));
        return name == 0 ? a : name == 1 ? b : name == 2 ? c : Integer.parseInt(text);
    }

    private static int joined(char sign, long a, long b) {
        switch (sign) {
            case '|': return a != 0 || b != 0 ? 1 : 0;
            case '&': return a != 0 && b != 0 ? 1 : 0;
            case '<': return a < b ? 1 : 0;
            case '=': return a == b ? 1 : 0;
            case '>': return a > b ? 1 : 0;
            case '+': return (int) (a + b);
            case '-': return (int) (a - b);
            case '*': return (int) (a * b);
            case '/': return b == 0 ? 0 : (int) (a / b);
            default: return b == 0 ? 0 : (int) (a % b);
        }
    }

    // ---- the calls

    int person(int km) {
        if (off(km, 0, 69)) return error(Due.BEYOND);
        if (men.size() == 8) return error(Due.FULL);
        for (int i = 0; i < 8; i++) {
            says[men.size()][i] = 0;
            says[i][men.size()] = 0;
        }
        men.add(new Man(km / 10, km % 10, 0, false));
        return men.size() - 1;
    }

    int personIs(int person, int what) {
        if (no(person) || off(what, 0, 4)) return error(Due.BEYOND);
        Man man = men.get(person);
        return new int[] {man.kind, man.m, man.out, man.lost ? 1 : 0, ropeOf(person)}[what];
    }

    int become(int person, int km) {
        if (no(person) || off(km, 0, 69)) return error(Due.BEYOND);
        Man man = men.get(person);
        int was = man.kind;
        man.kind = km / 10;
        man.m = km % 10;
        return was;
    }

    int as(int person, int kind) {
        if (no(person) || off(kind, 0, 6)) return error(Due.BEYOND);
        for (int k = men.get(person).kind; k >= 0; k = UNDER[k]) {
            if (k == kind) return men.get(person).m;
        }
        return error(Due.KIND);
    }

    int tells(int person, int of, int v) {
        if (no(person) || no(of) || person == of || off(v, 0, 99)) return error(Due.BEYOND);
        int was = says[person][of];
        says[person][of] = v;
        return was;
    }

    int rope(int person, int of) {
        if (no(person) || no(of) || person == of) return error(Due.BEYOND);
        return ropeIf(person, of, says[person][of]);
    }

    int swim(int person, int far) {
        if (no(person) || off(far, 0, 500)) return error(Due.BEYOND);
        if (men.get(person).lost) return error(Due.STATE);
        int was = men.get(person).out;
        men.get(person).out = far;
        return was;
    }

    int saves(int person) {
        if (no(person)) return error(Due.BEYOND);
        int was = men.get(person).lost ? 1 : 0;
        men.get(person).lost = false;
        men.get(person).out = 0;
        return was;
    }

    int weather(int v) {
        if (off(v, 0, 9)) return error(Due.BEYOND);
        int was = sea;
        sea = v;
        return was;
    }

    int feed(long word, int n) {
        if (off(n, 1, 8)) return error(Due.BEYOND);
        if (tape.length() + n > 60) return error(Due.FULL);
        for (int i = 0; i < n; i++) {
            tape += (char) (word >> 8 * i & 255);
        }
        return tape.length();
    }

    int text(int use) {
        if (off(use, 0, 1)) return error(Due.BEYOND);
        String read = tape;
        tape = "";
        if (!isText(read, NAMES[use])) return -10 - faultOf(read, NAMES[use]);
        laws[use] = read;
        return 1;
    }

    int untell(int use) {
        if (off(use, 0, 1)) return error(Due.BEYOND);
        int was = laws[use] == null ? 0 : 1;
        laws[use] = null;
        return was;
    }

    int law(int use, int a, int b, int c) {
        return off(use, 0, 1) ? error(Due.BEYOND) : lawOf(use, a, b, c);
    }

    int days(int n) {
        if (off(n, 1, 60)) return error(Due.BEYOND);
        if (day + n > 9999) return error(Due.STATE);
        int gone = 0;
        for (int i = 0; i < n; i++) {
            gone += pass();
        }
        return gone;
    }

    int loose(int n) {
        if (off(n, 1, 30)) return error(Due.BEYOND);
        if (day + n > 9999) return error(Due.STATE);
        int gone = 0;
        for (int i = 0; i < n; i++) {
            sea = draw() % 10;
            if (!men.isEmpty()) {
                Man man = men.get(draw() % men.size());
                int far = draw() % 60;
                man.out = man.lost ? man.out : far;
            }
            gone += pass();
        }
        return gone;
    }

    int seed(int v) {
        int was = z;
        z = v;
        return was;
    }

    int then(int person, int n, int what) {
        if (no(person) || off(n, 0, 60) || off(what, 0, 1)) return error(Due.BEYOND);
        Model thought = twin();
        for (int i = 0; i < n; i++) {
            thought.pass();
        }
        return what == 0 ? thought.ropeOf(person) : thought.men.get(person).lost ? 1 : 0;
    }

    /** All sets of PEOPLE, the smaller ones first, then the lesser ones. */
    private List<Integer> sets() {
        List<Integer> sets = new ArrayList<>();
        for (int set = 0; set < 1 << men.size(); set++) {
            sets.add(set);
        }
        sets.sort((a, b) -> Integer.bitCount(a) != Integer.bitCount(b)
            ? Integer.bitCount(a) - Integer.bitCount(b) : a - b);
        return sets;
    }

    private static boolean in(int set, int i) {
        return (set >> i & 1) == 1;
    }

    int cuts(int person, int far, int what) {
        if (no(person) || off(far, 1, 500) || off(what, 0, 1)) return error(Due.BEYOND);
        for (int set : sets()) {
            int left = 0;
            for (int i : ashoreBut(person)) {
                left += in(set, i) ? 0 : ropeIf(i, person, says[i][person]);
            }
            if (left < far) return what == 0 ? Integer.bitCount(set) : set;
        }
        return Due.MIN;
    }

    int hauls(int person, int far, int what) {
        if (no(person) || off(far, 1, 500) || off(what, 0, 1)) return error(Due.BEYOND);
        for (int set : sets()) {
            int all = 0;
            for (int i : ashoreBut(person)) {
                all += in(set, i) ? ropeIf(i, person, says[i][person]) : 0;
            }
            if (all >= far) return what == 0 ? Integer.bitCount(set) : set;
        }
        return error(Due.NONE);
    }

    private boolean partied(int set, int far) {
        for (int of = 0; of < men.size(); of++) {
            int all = 0;
            for (int i = 0; i < men.size(); i++) {
                all += in(set, i) || men.get(i).lost || i == of ? 0 : ropeIf(i, of, says[i][of]);
            }
            if (in(set, of) && (men.get(of).lost || all < far + 5 * sea)) return false;
        }
        return true;
    }

    int party(int far, int what) {
        if (off(far, 1, 500) || off(what, 0, 1)) return error(Due.BEYOND);
        int best = 0;
        for (int set : sets()) {
            if (Integer.bitCount(set) > Integer.bitCount(best) && partied(set, far)) best = set;
        }
        return what == 0 ? Integer.bitCount(best) : best;
    }

    int speaks(int person, int what) {
        if (no(person) || off(what, 0, 1)) return error(Due.BEYOND);
        int who = -1;
        int before = ropeOf(person);
        int most = 0;
        for (int i : ashoreBut(person)) {
            int said = says[i][person];
            says[i][person] = Math.min(99, said + 10);
            int more = ropeOf(person) - before;
            says[i][person] = said;
            if (who < 0 || more > most) {
                who = i;
                most = more;
            }
        }
        return who < 0 ? error(Due.NONE) : what == 0 ? who : most;
    }

    int odds(int person, int far, int part) {
        if (no(person) || off(far, 0, 500) || off(part, 0, 1)) return error(Due.BEYOND);
        Model thought = twin();
        int n = 0;
        for (thought.sea = 0; thought.sea < 10; thought.sea++) {
            n += far + 5 * thought.sea > thought.ropeOf(person) ? 0 : 1;
        }
        int by = n == 0 ? 10 : n == 5 ? 5 : n == 10 ? 10 : n % 2 == 0 ? 2 : 1;
        return (part == 0 ? n : 10) / by;
    }

    private static int sizeOf(Object sheet) {
        return java.lang.reflect.Array.getLength(sheet);
    }

    private static int at(Object sheet, int i) {
        return java.lang.reflect.Array.getInt(sheet, i);
    }

    private int rights(Object sheet) {
        int right = 0;
        while (right < sizeOf(sheet) && right < men.size() && at(sheet, right) == ropeOf(right)) {
            right++;
        }
        return right;
    }

    int fits(int sheet) {
        if (off(sheet, 0, 3)) return error(Due.BEYOND);
        if (sheets[sheet] == null) return error(Due.NONE);
        Model thought = twin();
        for (int d = 0; d <= 60; d++) {
            if (thought.rights(sheets[sheet]) == sizeOf(sheets[sheet])) return d;
            thought.pass();
        }
        return error(Due.NONE);
    }

    private int call(Man man, int k, int kind, int voice, int x, List<Integer> begun) throws Parted {
        int from = kind;
        while (BODIES[from][voice] == 0) {
            from = UNDER[from];
        }
        int body = BODIES[from][voice];
        int above = UNDER[from];
        begun.add(body);
        switch (body) {
            case 10: return x + k;
            case 11: return call(man, k, man.kind, 0, x, begun) * 2;
            case 12: return call(man, k, man.kind, 1, x, begun) - man.m;
            case 13:
                if (man.m == k) throw new Parted();
                return x / (man.m - k);
            case 20: return call(man, k, above, 0, x, begun) - 4;
            case 21: return call(man, k, above, 3, x, begun) + call(man, k, man.kind, 1, 1, begun);
            case 30: return -call(man, k, above, 1, x, begun);
            case 40: return call(man, k, above, 2, x / 2, begun);
            case 50: return call(man, k, above, 0, x, begun) * 3;
            case 51: return call(man, k, above, 2, x, begun) ^ k;
            case 60: return call(man, k, above, 1, x + 1, begun);
            case 70: return 9;
            default: return call(man, k, above, 1, x, begun) + man.m;
        }
    }

    int voice(int person, int voice, int x) {
        if (no(person) || off(voice, 0, 3)) return error(Due.BEYOND);
        trace = new ArrayList<>();
        try {
            Man man = men.get(person);
            return call(man, person, man.kind, voice, x, trace);
        } catch (Parted parted) {
            return error(Due.PARTED);
        }
    }

    int body(int i) {
        return off(i, 0, trace.size() - 1) ? error(Due.NONE) : trace.get(i);
    }

    int sheet(int sheet, int bits, int n) {
        if (off(sheet, 0, 3) || Arrays.binarySearch(new int[] {0, 8, 16, 32}, bits) < 0) return error(Due.BEYOND);
        if (bits > 0 && n < 0) return error(Due.STATE);
        if (bits > 0 && n > 24) return error(Due.BEYOND);
        sheets[sheet] = bits == 0 ? null : bits == 8 ? new byte[n] : bits == 16 ? new short[n] : new int[n];
        return 1;
    }

    int put(int sheet, int i, int v) {
        if (off(sheet, 0, 3)) return error(Due.BEYOND);
        if (sheets[sheet] == null) return error(Due.NONE);
        if (off(i, 0, sizeOf(sheets[sheet]) - 1)) return error(Due.BEYOND);
        if (sheets[sheet] instanceof byte[]) {
            ((byte[]) sheets[sheet])[i] = (byte) v;
        } else if (sheets[sheet] instanceof short[]) {
            ((short[]) sheets[sheet])[i] = (short) v;
        } else {
            ((int[]) sheets[sheet])[i] = v;
        }
        return 1;
    }

    int move(int sheet, int i, int other, int j, int n) {
        if (off(sheet, 0, 3) || off(other, 0, 3)) return error(Due.BEYOND);
        if (sheets[sheet] == null || sheets[other] == null) return error(Due.NONE);
        try {
            System.arraycopy(sheets[sheet], i, sheets[other], j, n);
            return n;
        } catch (ArrayStoreException unlike) {
            return error(Due.KIND);
        } catch (IndexOutOfBoundsException beyond) {
            return error(Due.BEYOND);
        }
    }

    int words(int person, int sheet) {
        if (no(person) || off(sheet, 0, 3)) return error(Due.BEYOND);
        if (sheets[sheet] == null) return error(Due.NONE);
        int n = 0;
        while (n < sizeOf(sheets[sheet]) && n < men.size()) {
            int v = at(sheets[sheet], n);
            if (n != person && off(v, 0, 99)) return n;
            says[person][n] = n == person ? 0 : v;
            n++;
        }
        return n;
    }

    int judge(int sheet) {
        if (off(sheet, 0, 3)) return error(Due.BEYOND);
        return sheets[sheet] == null ? error(Due.NONE) : rights(sheets[sheet]);
    }

    int image() {
        image = twin();
        return ++images;
    }

    int restore() {
        if (image == null) return error(Due.NONE);
        take(image);
        return day;
    }

    int tell(int v) {
        if (waiting.size() == 24) return error(Due.FULL);
        waiting.add(v);
        return waiting.size();
    }

    int check() {
        List<Integer> asked = waiting;
        waiting = new ArrayList<>();
        for (int i = 0; i < asked.size(); i++) {
            if (no(i) || asked.get(i) != men.get(i).out) return 1 + i;
        }
        return 0;
    }

    int count(int what) {
        if (off(what, 0, 6)) return error(Due.BEYOND);
        return new int[] {men.size(), sea, day, tape.length(), waiting.size(), trace.size(), z}[what];
    }

    int told(int k) {
        return off(k, 1, 6) ? error(Due.BEYOND) : told[k];
    }
}
