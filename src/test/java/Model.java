import java.util.ArrayList;
import java.util.List;

/**
 * The document once more, told as plainly as can be and in another way than the class: whole states are copied,
 * numbers are long, texts are looked through by a row of states and worked out by two stacks.
 */
final class Model {
    static final int BAD = -1000000001, NO = -1000000002, FULL = -1000000003, NONE = -1000000005;
    static final int NOTHING = -1000000011, KIND = -1000000012, INDEX = -1000000013, SIZE = -1000000014;

    static final class Door {
        int kind, first, second, wide;
        boolean open;

        Door twin() {
            Door d = new Door();
            d.kind = kind;
            d.first = first;
            d.second = second;
            d.wide = wide;
            d.open = open;
            return d;
        }

        boolean isA(int asked) {
            return kind == asked || asked == 0 || kind == 3 && asked == 1 || kind == 4 && asked == 2;
        }

        int worth() {
            return new int[] {wide, wide + 20, 30 - wide, (wide + 20) * 2, 25 - wide, 2}[kind];
        }
    }

    static final class State {
        List<Door> doors = new ArrayList<>();
        long[] air = new long[8];
        int[] fire = new int[8];
        long[] scent = new long[8];
        boolean[] lit = new boolean[8];
        long wind = 1000, gone;
        int minute, z = 1;
        List<String> texts = new ArrayList<>();

        State() {
            java.util.Arrays.fill(air, 1000);
        }

        State twin() {
            State s = new State();
            for (Door d : doors) {
                s.doors.add(d.twin());
            }
            s.air = air.clone();
            s.fire = fire.clone();
            s.scent = scent.clone();
            s.lit = lit.clone();
            s.wind = wind;
            s.gone = gone;
            s.minute = minute;
            s.z = z;
            s.texts = new ArrayList<>(texts);
            return s;
        }

        int why(int key) {
            for (int i = texts.size() - 1; i >= 0; i--) {
                if (keyOf(texts.get(i)) == key) {
                    return i;
                }
            }
            return NONE;
        }

        long lets(Door d) {
            int why = why(0);
            long plain = why == NONE ? d.open ? 6 * d.wide : 0 : value(texts.get(why), d.wide, d.open ? 1 : 0);
            plain = Math.max(0, Math.min(60, plain));
            if (d.kind == 1) {
                return plain / 2;
            }
            if (d.kind == 2) {
                return plain + 3;
            }
            if (d.kind == 3) {
                return d.open ? plain / 2 : 0;
            }
            if (d.kind == 4) {
                return Math.min(10, plain + 3);
            }
            return d.kind == 5 ? d.wide : plain;
        }

        long airOf(int end) {
            return end == 8 ? wind : air[end];
        }

        long flow(Door d) {
            return (airOf(d.first) - airOf(d.second)) * lets(d) / 1000;
        }

        long draught(int room) {
            long all = 0;
            for (Door d : doors) {
                if (d.first == room || d.second == room) {
                    all += Math.abs(flow(d));
                }
            }
            return all;
        }

        State next() {
            State n = twin();
            for (Door d : doors) {
                long flow = flow(d);
                int from = flow > 0 ? d.first : d.second;
                int to = flow > 0 ? d.second : d.first;
                long size = Math.abs(flow);
                if (from != 8) {
                    greatest = Math.max(greatest, scent[from] * size);
                    long goes = Math.min(n.scent[from], scent[from] * size / Math.max(1, air[from]));
                    n.scent[from] -= goes;
                    n.air[from] -= size;
                    if (to != 8) {
                        n.scent[to] += goes;
                    } else {
                        n.gone += size;
                    }
                } else {
                    n.gone -= size;
                }
                if (to != 8) {
                    n.air[to] += size;
                }
            }
            for (int r = 0; r < 8; r++) {
                n.air[r] = Math.max(0, n.air[r] - fire[r]);
                int why = why(1);
                long gust = why == NONE ? 20 : value(texts.get(why), fire[r], (int) n.scent[r]);
                n.lit[r] = lit[r] && draught(r) <= Math.max(0, Math.min(999, gust));
            }
            n.minute++;
            return n;
        }

        State later(int many) {
            State s = this;
            for (int i = 0; i < many; i++) {
                s = s.next();
            }
            return s;
        }

        int litSet() {
            int set = 0;
            for (int r = 0; r < 8; r++) {
                set |= lit[r] ? 1 << r : 0;
            }
            return set;
        }

        int openSet() {
            int set = 0;
            for (int i = 0; i < doors.size(); i++) {
                set |= doors.get(i).open ? 1 << i : 0;
            }
            return set;
        }

        int draw() {
            z = z * 1103515245 + 12345;
            return z >>> 8;
        }
    }

    /** The greatest product of a scent and a flow that was met. */
    static long greatest = 0;

    State now = new State();
    State image = null;
    StringBuilder tape = new StringBuilder();
    Integer[][] sheets = new Integer[4][];
    int[] sorts = new int[4];
    Object[] slots = new Object[5];
    List<Integer> waiting = new ArrayList<>();

    static int keyOf(String text) {
        return "lgf".indexOf(text.trim().charAt(0));
    }

    static boolean isWord(char c) {
        return isLetter(c) || isDigit(c);
    }

    static boolean isLetter(char c) {
        return c >= 'a' && c <= 'z';
    }

    static boolean isDigit(char c) {
        return c >= '0' && c <= '9';
    }

    /** The places at which words and signs begin, each with the place behind it. */
    static List<int[]> pieces(String text) {
        List<int[]> all = new ArrayList<>();
        int i = 0;
        while (i < text.length()) {
            char c = text.charAt(i);
            int from = i++;
            while (i < text.length() && (isLetter(c) && isLetter(text.charAt(i)) || isDigit(c) && isDigit(text.charAt(i)))) {
                i++;
            }
            if (c != ' ') {
                all.add(new int[] {from, i});
            }
        }
        return all;
    }

    static String names(int key) {
        return new String[] {"wo", "fs", "gm"}[key];
    }

    static int fault(String text) {
        List<int[]> pieces = pieces(text);
        int key = -1;
        boolean wantsPiece = true;
        List<boolean[]> tested = new ArrayList<>();
        List<Integer> notsAt = new ArrayList<>();
        tested.add(new boolean[1]);
        notsAt.add(0);
        int nots = 0;
        int endAhead = -1;
        for (int[] p : pieces) {
            String w = text.substring(p[0], p[1]);
            char c = w.charAt(0);
            boolean crammed = isWord(c) && p[0] == endAhead && isWord(text.charAt(p[0] - 1));
            endAhead = p[1];
            int top = tested.size() - 1;
            if (crammed) {
                return p[0];
            }
            if (key < 0) {
                key = w.equals("lets") ? 0 : w.equals("gust") ? 1 : w.equals("fine") ? 2 : -1;
                if (key < 0) {
                    return p[0];
                }
            } else if (wantsPiece) {
                if (c == '!' && nots < 8) {
                    nots++;
                } else if (c == '(' && top < 8) {
                    tested.add(new boolean[1]);
                    notsAt.add(nots);
                } else if (isDigit(c) && w.length() <= 4 || w.length() == 1 && names(key).indexOf(c) >= 0) {
                    wantsPiece = false;
                    nots = notsAt.get(top);
                } else {
                    return p[0];
                }
            } else if (c == ')' && top > 0) {
                tested.remove(top);
                notsAt.remove(top);
                nots = notsAt.get(top - 1);
            } else if (c == '|' || c == '&') {
                tested.get(top)[0] = false;
                wantsPiece = true;
            } else if ((c == '<' || c == '=' || c == '>') && !tested.get(top)[0]) {
                tested.get(top)[0] = true;
                wantsPiece = true;
            } else if (c == '+' || c == '-' || c == '*' || c == '/') {
                wantsPiece = true;
            } else {
                return p[0];
            }
        }
        return key < 0 || wantsPiece || tested.size() > 1 ? text.length() : NONE;
    }

    static int rank(char sign) {
        return sign == '(' ? 0 : sign == '|' ? 1 : sign == '&' ? 2 : "<=>".indexOf(sign) >= 0 ? 3 : "+-".indexOf(sign) >= 0 ? 4 : sign == '!' ? 6 : 5;
    }

    static void work(List<Integer> values, List<Character> signs) {
        char sign = signs.remove(signs.size() - 1);
        int b = values.remove(values.size() - 1);
        if (sign == '!') {
            values.add(b == 0 ? 1 : 0);
            return;
        }
        int a = values.remove(values.size() - 1);
        boolean test = sign == '<' ? a < b : sign == '>' ? a > b : sign == '=' ? a == b : sign == '&' ? a != 0 && b != 0 : a != 0 || b != 0;
        int given = sign == '+' ? a + b : sign == '-' ? a - b : sign == '*' ? a * b : sign == '/' ? b == 0 ? 0 : (int) ((long) a / b) : test ? 1 : 0;
        values.add(given);
    }

    static int value(String text, int one, int two) {
        List<Integer> values = new ArrayList<>();
        List<Character> signs = new ArrayList<>();
        List<int[]> pieces = pieces(text);
        String names = names(keyOf(text));
        for (int[] p : pieces.subList(1, pieces.size())) {
            char c = text.charAt(p[0]);
            if (isDigit(c)) {
                values.add(Integer.parseInt(text.substring(p[0], p[1])));
            } else if (isLetter(c)) {
                values.add(names.indexOf(c) == 0 ? one : two);
            } else if (c == '(' || c == '!') {
                signs.add(c);
            } else if (c == ')') {
                while (signs.get(signs.size() - 1) != '(') {
                    work(values, signs);
                }
                signs.remove(signs.size() - 1);
            } else {
                while (!signs.isEmpty() && rank(signs.get(signs.size() - 1)) >= rank(c)) {
                    work(values, signs);
                }
                signs.add(c);
            }
        }
        while (!signs.isEmpty()) {
            work(values, signs);
        }
        return values.get(0);
    }

    static boolean out(int v, int least, int most) {
        return v < least || v > most;
    }

    boolean noDoor(int door) {
        return out(door, 0, now.doors.size() - 1);
    }

    int door(int kind, int from, int to, int wide) {
        if (out(kind, 0, 5) || out(from, 0, 7) || out(to, 0, 8) || from == to || out(wide, 1, 9)) {
            return BAD;
        }
        if (now.doors.size() == 10) {
            return FULL;
        }
        Door d = new Door();
        d.kind = kind;
        d.first = from;
        d.second = to;
        d.wide = wide;
        now.doors.add(d);
        return now.doors.size() - 1;
    }

    int told(int door, int what) {
        if (noDoor(door) || out(what, 0, 7)) {
            return BAD;
        }
        Door d = now.doors.get(door);
        long[] all = {d.kind, d.first, d.second, d.wide, d.open ? 1 : 0, now.lets(d), now.flow(d), d.worth()};
        return (int) all[what];
    }

    int as(int door, int kind) {
        if (noDoor(door) || out(kind, 0, 5)) {
            return BAD;
        }
        return now.doors.get(door).isA(kind) ? now.doors.get(door).wide : KIND;
    }

    int turns(int door, int kind) {
        if (noDoor(door) || out(kind, 0, 5)) {
            return BAD;
        }
        int was = now.doors.get(door).kind;
        now.doors.get(door).kind = kind;
        return was;
    }

    int open(int door, int v) {
        if (noDoor(door) || out(v, 0, 1)) {
            return BAD;
        }
        boolean was = now.doors.get(door).open;
        now.doors.get(door).open = v == 1;
        return was ? 1 : 0;
    }

    int room(int room, int what) {
        if (out(room, 0, 7) || out(what, 0, 4)) {
            return BAD;
        }
        return (int) new long[] {now.air[room], now.fire[room], now.scent[room], now.lit[room] ? 1 : 0, now.draught(room)}[what];
    }

    int set(int room, int what, int v) {
        if (out(room, 0, 7) || out(what, 0, 3) || out(v, 0, new int[] {9999, 9, 9999, 1}[what])) {
            return BAD;
        }
        int was = room(room, what);
        if (what == 0) {
            now.air[room] = v;
        } else if (what == 1) {
            now.fire[room] = v;
        } else if (what == 2) {
            now.scent[room] = v;
        } else {
            now.lit[room] = v == 1;
        }
        return was;
    }

    int wind(int v) {
        if (out(v, 0, 9999)) {
            return BAD;
        }
        int was = (int) now.wind;
        now.wind = v;
        return was;
    }

    int deal(int n) {
        if (out(n, 1, 10)) {
            return BAD;
        }
        int came = 0;
        while (came < n && now.doors.size() < 10) {
            Door d = new Door();
            d.kind = now.draw() % 6;
            d.first = now.draw() % 8;
            d.second = d.first;
            for (int steps = 1 + now.draw() % 8; steps > 0; steps--) {
                d.second = d.second == 8 ? 0 : d.second + 1;
            }
            d.wide = 1 + now.draw() % 9;
            d.open = true;
            now.doors.add(d);
            came++;
        }
        return came;
    }

    int seed(int v) {
        int was = now.z;
        now.z = v;
        return was;
    }

    int run(int n) {
        if (out(n, 1, 100)) {
            return BAD;
        }
        int ahead = Integer.bitCount(now.litSet());
        for (int i = 0; i < n && now.minute < 9999; i++) {
            now = now.next();
        }
        return ahead - Integer.bitCount(now.litSet());
    }

    int footman(int n) {
        if (out(n, 0, 100)) {
            return BAD;
        }
        int shut = 0;
        for (Door d : now.doors) {
            if (now.draw() % 100 < n) {
                shut += d.open ? 1 : 0;
                d.open = false;
            }
        }
        return shut;
    }

    int hall(int what) {
        if (out(what, 0, 4)) {
            return BAD;
        }
        long air = 0;
        long scent = 0;
        for (int r = 0; r < 8; r++) {
            air += now.air[r];
            scent += now.scent[r];
        }
        return (int) new long[] {now.gone, air, scent, now.litSet(), now.openSet()}[what];
    }

    int behind(int room, int n, int what) {
        if (out(room, 0, 7) || out(n, 0, 100) || out(what, 0, 3)) {
            return BAD;
        }
        State s = now.later(n);
        return (int) new long[] {s.air[room], s.scent[room], s.draught(room), s.lit[room] ? 1 : 0}[what];
    }

    int still() {
        State s = now;
        for (int n = 0; n <= 200; n++) {
            boolean still = true;
            for (Door d : s.doors) {
                still &= s.flow(d) == 0;
            }
            if (still) {
                return n;
            }
            s = s.next();
        }
        return NONE;
    }

    int birth(int room, int d, int n) {
        if (out(room, 0, 7) || out(d, 0, 999) || out(n, 0, 5)) {
            return BAD;
        }
        for (int many = 0; many <= 10; many++) {
            for (int set = 0; set < 1024; set++) {
                if (Integer.bitCount(set) == many && (set & now.openSet()) == set) {
                    State s = now.twin();
                    for (int i = 0; i < s.doors.size(); i++) {
                        s.doors.get(i).open &= (set >> i & 1) == 0;
                    }
                    boolean calm = true;
                    for (int i = 0; i <= n && calm; i++) {
                        calm = s.draught(room) <= d;
                        s = s.next();
                    }
                    if (calm) {
                        return set;
                    }
                }
            }
        }
        return NONE;
    }

    int smells(int room, int n) {
        if (out(room, 0, 7) || out(n, 0, 60)) {
            return BAD;
        }
        State s = now.twin();
        s.scent = new long[8];
        s.scent[room] = 9999;
        s = s.later(n);
        int set = 0;
        for (int r = 0; r < 8; r++) {
            set |= s.scent[r] != 0 ? 1 << r : 0;
        }
        return set;
    }

    int snuffs(int door, int n) {
        if (noDoor(door) || out(n, 1, 60)) {
            return BAD;
        }
        State open = now.twin();
        open.doors.get(door).open = true;
        State shut = now.twin();
        shut.doors.get(door).open = false;
        return Integer.bitCount(shut.later(n).litSet()) - Integer.bitCount(open.later(n).litSet());
    }

    int storm(int n) {
        if (out(n, 1, 20)) {
            return BAD;
        }
        int best = NONE;
        for (int wind = 99; wind <= 9999; wind += 100) {
            State s = now.twin();
            s.wind = wind;
            if (s.later(n).litSet() == now.litSet()) {
                best = wind;
            }
        }
        return best;
    }

    int opened(int sheet, int n, int what) {
        if (out(sheet, 0, 3) || out(n, 0, 40) || out(what, 0, 1)) {
            return BAD;
        }
        if (sheets[sheet] == null) {
            return NOTHING;
        }
        int best = NONE;
        long least = Long.MAX_VALUE;
        for (int i = 0; i < now.doors.size(); i++) {
            State s = now.twin();
            s.doors.get(i).open ^= true;
            s = s.later(n);
            long all = 0;
            for (int r = 0; r < 8 && r < sheets[sheet].length; r++) {
                all += sheets[sheet][r] == null ? 0 : Math.abs(s.air[r] - sheets[sheet][r]);
            }
            if (all < least) {
                least = all;
                best = i;
            }
        }
        return best == NONE || what == 0 ? best : (int) least;
    }

    int fine() {
        int why = now.why(2);
        return why == NONE ? (int) now.gone : value(now.texts.get(why), (int) now.gone, now.minute);
    }

    int feed(int a, int b, int c) {
        if (tape.length() > 84) {
            return FULL;
        }
        for (int v : new int[] {a, b, c}) {
            for (byte one : java.nio.ByteBuffer.allocate(4).putInt(v).array()) {
                tape.append((char) (one & 255));
            }
        }
        return tape.length();
    }

    int trim(int n) {
        if (out(n, 0, tape.length())) {
            return BAD;
        }
        tape.setLength(n);
        return n;
    }

    int text() {
        String text = tape.toString();
        tape.setLength(0);
        int fault = fault(text);
        if (fault != NONE) {
            return -100 - fault;
        }
        if (now.texts.size() == 14) {
            return FULL;
        }
        now.texts.add(text);
        return now.texts.size() - 1;
    }

    int textTold(int text, int what) {
        if (out(text, 0, now.texts.size() - 1) || out(what, 0, 1)) {
            return BAD;
        }
        String t = now.texts.get(text);
        int leaves = -1;
        for (int[] p : pieces(t)) {
            leaves += isWord(t.charAt(p[0])) ? 1 : 0;
        }
        return what == 0 ? keyOf(t) : leaves;
    }

    int why(int key) {
        return out(key, 0, 2) ? BAD : now.why(key);
    }

    int sheet(int sheet, int sort, int n) {
        if (out(sheet, 0, 3) || out(sort, -1, 1) || sort >= 0 && n > 24) {
            return BAD;
        }
        if (sort >= 0 && n < 0) {
            return SIZE;
        }
        sorts[sheet] = sort;
        sheets[sheet] = null;
        if (sort < 0) {
            return 0;
        }
        sheets[sheet] = new Integer[n];
        java.util.Arrays.fill(sheets[sheet], 0);
        return n;
    }

    int mark(int sheet, int place, int v) {
        if (out(sheet, 0, 3)) {
            return BAD;
        }
        if (sheets[sheet] == null) {
            return NOTHING;
        }
        if (out(place, 0, sheets[sheet].length - 1)) {
            return INDEX;
        }
        if (sorts[sheet] == 0 && v == NONE) {
            return KIND;
        }
        if (sorts[sheet] == 1 && v != NONE && out(v, -99999, 99999)) {
            return BAD;
        }
        sheets[sheet][place] = sorts[sheet] == 0 ? Integer.valueOf((short) v) : v == NONE ? null : Integer.valueOf(v);
        return 1;
    }

    int pour(int sheet) {
        if (out(sheet, 0, 3)) {
            return BAD;
        }
        if (sheets[sheet] == null) {
            return NOTHING;
        }
        long[] was = now.scent.clone();
        int otherwise = 0;
        for (int r = 0; r < 8; r++) {
            if (r < sheets[sheet].length && sheets[sheet][r] != null) {
                now.scent[r] = Math.max(0, Math.min(9999, sheets[sheet][r]));
            }
            otherwise += was[r] != now.scent[r] ? 1 : 0;
        }
        return otherwise;
    }

    int reads(int sheet) {
        if (out(sheet, 0, 3)) {
            return BAD;
        }
        if (sheets[sheet] == null) {
            return NOTHING;
        }
        for (int i = 0; i < sheets[sheet].length; i++) {
            if (sheets[sheet][i] != null && (i > 7 || sheets[sheet][i] != now.air[i])) {
                return i;
            }
        }
        return NONE;
    }

    int copy(int from, int place, int to, int at, int many) {
        if (out(from, 0, 3) || out(to, 0, 3)) {
            return BAD;
        }
        if (sheets[from] == null || sheets[to] == null) {
            return NOTHING;
        }
        if (sorts[from] != sorts[to]) {
            return KIND;
        }
        if (place < 0 || at < 0 || many < 0 || (long) place + many > sheets[from].length || (long) at + many > sheets[to].length) {
            return INDEX;
        }
        Integer[] were = sheets[from].clone();
        for (int i = 0; i < many; i++) {
            sheets[to][at + i] = were[place + i];
        }
        return many;
    }

    int lay(int slot, int thing, int k) {
        if (out(slot, 0, 4) || out(thing, 0, 3) || thing == 1 && noDoor(k) || thing == 2 && out(k, 0, 3)) {
            return BAD;
        }
        if (thing == 2 && sheets[k] == null) {
            return NOTHING;
        }
        Object was = slots[slot];
        slots[slot] = thing == 0 ? null : thing == 1 ? now.doors.get(k).twin() : thing == 2 ? sheets[k].clone() : Integer.valueOf(k);
        return was == null ? 0 : was instanceof Door ? 1 : was instanceof Integer ? 3 : 2;
    }

    int ask(int slot, int kind) {
        if (out(slot, 0, 4) || out(kind, 0, 5)) {
            return BAD;
        }
        if (slots[slot] == null) {
            return NOTHING;
        }
        return slots[slot] instanceof Door d && d.isA(kind) ? d.worth() : KIND;
    }

    int item(int slot, int place) {
        if (out(slot, 0, 4)) {
            return BAD;
        }
        if (slots[slot] == null) {
            return NOTHING;
        }
        if (!(slots[slot] instanceof Integer[] row)) {
            return KIND;
        }
        return out(place, 0, row.length - 1) ? INDEX : row[place] == null ? KIND : row[place];
    }

    int rest(int slot, int n) {
        if (out(slot, 0, 4)) {
            return BAD;
        }
        if (slots[slot] == null) {
            return NOTHING;
        }
        if (!(slots[slot] instanceof Integer number)) {
            return KIND;
        }
        return n == 0 ? NO : (int) ((long) number - (long) number / n * n);
    }

    int tell(int v) {
        if (waiting.size() == 60) {
            return FULL;
        }
        waiting.add(v);
        return waiting.size();
    }

    int check(int n) {
        List<Integer> told = waiting;
        waiting = new ArrayList<>();
        if (out(n, 1, 30)) {
            return BAD;
        }
        if (image == null) {
            return NO;
        }
        List<Integer> due = new ArrayList<>();
        State s = image;
        for (int i = 0; i < n && s.minute < 9999; i++) {
            s = s.next();
            long air = 0;
            for (long a : s.air) {
                air += a;
            }
            due.add((int) air);
            due.add(s.litSet());
        }
        int right = 0;
        while (right < due.size() && right < told.size() && due.get(right).equals(told.get(right))) {
            right++;
        }
        return due.equals(told) ? 0 : 1 + right;
    }

    int keep() {
        image = now.twin();
        return image.doors.size();
    }

    int back() {
        if (image == null) {
            return NO;
        }
        now = image.twin();
        return now.doors.size();
    }

    int count(int what) {
        if (out(what, 0, 8)) {
            return BAD;
        }
        return new int[] {now.doors.size(), Integer.bitCount(now.openSet()), now.minute, (int) now.wind, Integer.bitCount(now.litSet()),
            now.texts.size(), waiting.size(), tape.length(), now.z}[what];
    }
}
