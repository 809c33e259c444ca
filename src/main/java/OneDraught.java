import java.util.Arrays;

/** A hall of one draught; ../shared/DOC.md says what each call answers. */
public final class OneDraught {
    public static final int BAD = -1000000001, NO = -1000000002, FULL = -1000000003, NONE = -1000000005, NOTHING = -1000000011, KIND = -1000000012, INDEX = -1000000013, SIZE = -1000000014;

    private static final int ROOMS = 8;
    private static final int OUTSIDE = 8;
    private static final int MOST_AIR = 9999;
    private static final int MOST_FIRE = 9;
    private static final int MOST_SCENT = 9999;
    private static final int MOST_TAPE = 96;
    private static final int MOST_WAITING = 60;
    private static final int SHEETS = 4;
    private static final int SLOTS = 5;
    private static final int FIRST_FAULT = -100;

    private final Hall now = new Hall();
    private final Hall image = new Hall();
    private boolean imageKept;
    private final Thought thought = new Thought();
    private final Tape tape = new Tape();
    private final Sheet[] sheets = new Sheet[SHEETS];
    private final Slot[] slots = new Slot[SLOTS];
    private final int[] waiting = new int[MOST_WAITING];
    private int waitingMany;

    public OneDraught() {
        for (int i = 0; i < SHEETS; i++) {
            sheets[i] = new Sheet();
        }
        for (int i = 0; i < SLOTS; i++) {
            slots[i] = new Slot();
        }
    }

    // ---- doors, rooms

    public int door(int kind, int from, int to, int wide) {
        if (!Kinds.isKind(kind) || !isRoom(from) || !isWithin(to, 0, OUTSIDE) || to == from
                || !isWithin(wide, 1, Doors.MOST_WIDE)) {
            return BAD;
        }
        if (now.doors.many >= Doors.MOST) {
            return FULL;
        }
        return now.doors.add(kind, from, to, wide);
    }

    public int told(int door, int what) {
        if (!now.doors.has(door)) {
            return BAD;
        }
        Doors doors = now.doors;
        switch (what) {
            case 0: return doors.kind[door];
            case 1: return doors.first[door];
            case 2: return doors.second[door];
            case 3: return doors.wide[door];
            case 4: return doors.isOpen(door) ? 1 : 0;
            case 5: return now.letsOf(door);
            case 6: return now.flowOf(door);
            case 7: return Kinds.worthOf(doors.kind[door], doors.wide[door]);
            default: return BAD;
        }
    }

    public int as(int door, int kind) {
        if (!now.doors.has(door) || !Kinds.isKind(kind)) {
            return BAD;
        }
        return Kinds.isOf(now.doors.kind[door], kind) ? now.doors.wide[door] : KIND;
    }

    public int turns(int door, int kind) {
        if (!now.doors.has(door) || !Kinds.isKind(kind)) {
            return BAD;
        }
        int was = now.doors.kind[door];
        now.doors.kind[door] = kind;
        return was;
    }

    public int open(int door, int v) {
        if (!now.doors.has(door) || !isWithin(v, 0, 1)) {
            return BAD;
        }
        int was = now.doors.isOpen(door) ? 1 : 0;
        now.doors.swing(door, v == 1);
        return was;
    }

    public int room(int room, int what) {
        if (!isRoom(room)) {
            return BAD;
        }
        switch (what) {
            case 0: return now.air[room];
            case 1: return now.fire[room];
            case 2: return now.scent[room];
            case 3: return now.isLit(room) ? 1 : 0;
            case 4: return now.draughtOf(room);
            default: return BAD;
        }
    }

    public int set(int room, int what, int v) {
        if (!isRoom(room) || !isWithin(what, 0, 3) || !isWithin(v, 0, mostOf(what))) {
            return BAD;
        }
        int was;
        switch (what) {
            case 0:
                was = now.air[room];
                now.air[room] = v;
                return was;
            case 1:
                was = now.fire[room];
                now.fire[room] = v;
                return was;
            case 2:
                was = now.scent[room];
                now.scent[room] = v;
                return was;
            default:
                was = now.isLit(room) ? 1 : 0;
                now.light(room, v == 1);
                return was;
        }
    }

    private static int mostOf(int what) {
        switch (what) {
            case 0: return MOST_AIR;
            case 1: return MOST_FIRE;
            case 2: return MOST_SCENT;
            default: return 1;
        }
    }

    public int wind(int v) {
        if (!isWithin(v, 0, MOST_AIR)) {
            return BAD;
        }
        int was = now.air[OUTSIDE];
        now.air[OUTSIDE] = v;
        return was;
    }

    public int deal(int n) {
        if (!isWithin(n, 1, Doors.MOST)) {
            return BAD;
        }
        int coming = Math.min(n, Doors.MOST - now.doors.many);
        for (int i = 0; i < coming; i++) {
            now.drawDoor();
        }
        return coming;
    }

    public int seed(int v) {
        int was = now.z;
        now.z = v;
        return was;
    }

    // ---- minutes

    public int run(int n) {
        if (!isWithin(n, 1, 100)) {
            return BAD;
        }
        int litAhead = now.litMany();
        int minutes = Math.min(n, now.minutesLeft());
        for (int i = 0; i < minutes; i++) {
            now.passMinute();
        }
        return litAhead - now.litMany();
    }

    public int footman(int n) {
        if (!isWithin(n, 0, 100)) {
            return BAD;
        }
        int openAhead = now.doors.openMany();
        now.goRound(n);
        return openAhead - now.doors.openMany();
    }

    public int hall(int what) {
        switch (what) {
            case 0: return now.gone;
            case 1: return now.airOfAll();
            case 2: return now.scentOfAll();
            case 3: return now.litSet;
            case 4: return now.doors.openSet;
            default: return BAD;
        }
    }

    // ---- what will be

    public int behind(int room, int n, int what) {
        if (!isRoom(room) || !isWithin(n, 0, 100) || !isWithin(what, 0, 3)) {
            return BAD;
        }
        Hall then = thought.behindMinutes(now, n);
        switch (what) {
            case 0: return then.air[room];
            case 1: return then.scent[room];
            case 2: return then.draughtOf(room);
            default: return then.isLit(room) ? 1 : 0;
        }
    }

    public int still() {
        return thought.minutesUntilStill(now);
    }

    public int birth(int room, int d, int n) {
        if (!isRoom(room) || !isWithin(d, 0, 999) || !isWithin(n, 0, 5)) {
            return BAD;
        }
        return thought.fewestToShut(now, room, d, n);
    }

    public int smells(int room, int n) {
        if (!isRoom(room) || !isWithin(n, 0, 60)) {
            return BAD;
        }
        return thought.roomsThatSmell(now, room, n);
    }

    public int snuffs(int door, int n) {
        if (!now.doors.has(door) || !isWithin(n, 1, 60)) {
            return BAD;
        }
        return thought.litWith(now, door, false, n) - thought.litWith(now, door, true, n);
    }

    public int storm(int n) {
        if (!isWithin(n, 1, 20)) {
            return BAD;
        }
        // A stronger wind may be the calmer one, where the air of a room is high: each is tried.
        for (int v = MOST_AIR; v >= 0; v -= 100) {
            if (thought.allStayLit(now, v, n)) {
                return v;
            }
        }
        return NONE;
    }

    public int opened(int sheet, int n, int what) {
        if (!isSheet(sheet) || !isWithin(n, 0, 40) || !isWithin(what, 0, 1)) {
            return BAD;
        }
        if (sheets[sheet].isMissing()) {
            return NOTHING;
        }
        int door = thought.likeliestDoor(now, sheets[sheet], n);
        if (door == NONE || what == 0) {
            return door;
        }
        return thought.differenceWith(now, sheets[sheet], door, n);
    }

    public int fine() {
        return now.laws.valueOf(Laws.FINE, now.gone, now.minute, now.gone);
    }

    // ---- texts

    public int feed(int a, int b, int c) {
        if (tape.length + 12 > MOST_TAPE) {
            return FULL;
        }
        tape.putBytes(a);
        tape.putBytes(b);
        tape.putBytes(c);
        return tape.length;
    }

    public int trim(int n) {
        if (!isWithin(n, 0, tape.length)) {
            return BAD;
        }
        tape.length = n;
        return n;
    }

    public int text() {
        int fault = tape.faultFound();
        tape.length = 0;
        if (fault != NONE) {
            return FIRST_FAULT - fault;
        }
        if (now.laws.many >= Laws.MOST) {
            return FULL;
        }
        return now.laws.add(tape.lawRead());
    }

    public int textTold(int text, int what) {
        Law law = now.laws.lawAt(text);
        if (law == null || !isWithin(what, 0, 1)) {
            return BAD;
        }
        return what == 0 ? law.key : law.leaves;
    }

    public int why(int key) {
        if (!isWithin(key, 0, Laws.KEYS - 1)) {
            return BAD;
        }
        return now.laws.counting[key];
    }

    // ---- sheets, slots

    public int sheet(int sheet, int sort, int n) {
        if (!isSheet(sheet) || !isWithin(sort, Sheet.MISSING, Sheet.FLOATS)) {
            return BAD;
        }
        if (sort == Sheet.MISSING) {
            sheets[sheet].become(Sheet.MISSING, 0);
            return 0;
        }
        if (n > Sheet.MOST) {
            return BAD;
        }
        if (n < 0) {
            return SIZE;
        }
        sheets[sheet].become(sort, n);
        return n;
    }

    public int mark(int sheet, int place, int v) {
        if (!isSheet(sheet)) {
            return BAD;
        }
        Sheet row = sheets[sheet];
        if (row.isMissing()) {
            return NOTHING;
        }
        if (!row.has(place)) {
            return INDEX;
        }
        if (row.sort == Sheet.SHORTS) {
            if (v == NONE) {
                return KIND;
            }
            row.places[place] = (short) v;
            return 1;
        }
        if (v != NONE && !isWithin(v, -Sheet.MOST_FLOAT, Sheet.MOST_FLOAT)) {
            return BAD;
        }
        row.places[place] = v == NONE ? Sheet.NO_NUMBER : v;
        return 1;
    }

    public int pour(int sheet) {
        if (!isSheet(sheet)) {
            return BAD;
        }
        Sheet row = sheets[sheet];
        if (row.isMissing()) {
            return NOTHING;
        }
        int otherwise = 0;
        for (int room = 0; room < ROOMS; room++) {
            if (row.hasNumber(room)) {
                int becomes = heldWithin(row.places[room], 0, MOST_SCENT);
                otherwise += becomes == now.scent[room] ? 0 : 1;
                now.scent[room] = becomes;
            }
        }
        return otherwise;
    }

    public int reads(int sheet) {
        if (!isSheet(sheet)) {
            return BAD;
        }
        Sheet row = sheets[sheet];
        if (row.isMissing()) {
            return NOTHING;
        }
        for (int place = 0; place < row.many; place++) {
            if (row.hasNumber(place) && (!isRoom(place) || row.places[place] != now.air[place])) {
                return place;
            }
        }
        return NONE;
    }

    public int copy(int from, int place, int to, int at, int many) {
        if (!isSheet(from) || !isSheet(to)) {
            return BAD;
        }
        Sheet source = sheets[from];
        Sheet target = sheets[to];
        if (source.isMissing() || target.isMissing()) {
            return NOTHING;
        }
        if (source.sort != target.sort) {
            return KIND;
        }
        if (!source.hasRange(place, many) || !target.hasRange(at, many)) {
            return INDEX;
        }
        System.arraycopy(source.places, place, target.places, at, many);
        return many;
    }

    public int lay(int slot, int thing, int k) {
        if (!isSlot(slot) || !canLay(thing, k)) {
            return BAD;
        }
        if (thing == Slot.SHEET && sheets[k].isMissing()) {
            return NOTHING;
        }
        Slot holder = slots[slot];
        int was = holder.thing;
        holder.thing = thing;
        if (thing == Slot.DOOR) {
            holder.kind = now.doors.kind[k];
            holder.wide = now.doors.wide[k];
        } else if (thing == Slot.SHEET) {
            holder.row.takeFrom(sheets[k]);
        } else {
            holder.number = k;
        }
        return was;
    }

    private boolean canLay(int thing, int k) {
        switch (thing) {
            case Slot.EMPTY:
            case Slot.NUMBER:
                return true;
            case Slot.DOOR:
                return now.doors.has(k);
            case Slot.SHEET:
                return isSheet(k);
            default:
                return false;
        }
    }

    public int ask(int slot, int kind) {
        if (!isSlot(slot) || !Kinds.isKind(kind)) {
            return BAD;
        }
        Slot holder = slots[slot];
        if (holder.thing == Slot.EMPTY) {
            return NOTHING;
        }
        if (holder.thing != Slot.DOOR || !Kinds.isOf(holder.kind, kind)) {
            return KIND;
        }
        return Kinds.worthOf(holder.kind, holder.wide);
    }

    public int item(int slot, int place) {
        if (!isSlot(slot)) {
            return BAD;
        }
        Slot holder = slots[slot];
        if (holder.thing == Slot.EMPTY) {
            return NOTHING;
        }
        if (holder.thing != Slot.SHEET) {
            return KIND;
        }
        if (!holder.row.has(place)) {
            return INDEX;
        }
        return holder.row.hasNumber(place) ? holder.row.places[place] : KIND;
    }

    public int rest(int slot, int n) {
        if (!isSlot(slot)) {
            return BAD;
        }
        Slot holder = slots[slot];
        if (holder.thing == Slot.EMPTY) {
            return NOTHING;
        }
        if (holder.thing != Slot.NUMBER) {
            return KIND;
        }
        return n == 0 ? NO : holder.number % n;
    }

    // ---- rows, images

    public int tell(int v) {
        if (waitingMany >= MOST_WAITING) {
            return FULL;
        }
        waiting[waitingMany] = v;
        waitingMany++;
        return waitingMany;
    }

    public int check(int n) {
        int toldMany = waitingMany;
        waitingMany = 0;
        if (!isWithin(n, 1, 30)) {
            return BAD;
        }
        if (!imageKept) {
            return NO;
        }
        int right = thought.rightOnes(image, waiting, toldMany, n);
        int dueMany = 2 * Math.min(n, image.minutesLeft());
        return right == dueMany && toldMany == dueMany ? 0 : 1 + right;
    }

    public int keep() {
        image.takeFrom(now);
        imageKept = true;
        return image.doors.many;
    }

    public int back() {
        if (!imageKept) {
            return NO;
        }
        now.takeFrom(image);
        return now.doors.many;
    }

    public int count(int what) {
        switch (what) {
            case 0: return now.doors.many;
            case 1: return now.doors.openMany();
            case 2: return now.minute;
            case 3: return now.air[OUTSIDE];
            case 4: return now.litMany();
            case 5: return now.laws.many;
            case 6: return waitingMany;
            case 7: return tape.length;
            case 8: return now.z;
            default: return BAD;
        }
    }

    private static boolean isRoom(int room) {
        return isWithin(room, 0, ROOMS - 1);
    }

    private static boolean isSheet(int sheet) {
        return isWithin(sheet, 0, SHEETS - 1);
    }

    private static boolean isSlot(int slot) {
        return isWithin(slot, 0, SLOTS - 1);
    }

    private static boolean isWithin(int v, int least, int most) {
        return v >= least && v <= most;
    }

    private static int heldWithin(int v, int least, int most) {
        return Math.max(least, Math.min(most, v));
    }

    /** The tree of kinds, and what each does in its own way. */
    private static final class Kinds {
        static final int MANY = 6;
        private static final int DOOR = 0;
        private static final int HEAVY = 1;
        private static final int LATTICE = 2;
        private static final int VAULT = 3;
        private static final int SCREEN = 4;
        private static final int FLUE = 5;
        private static final int TOP = -1;
        private static final int[] ABOVE = {TOP, DOOR, DOOR, HEAVY, LATTICE, DOOR};

        static boolean isKind(int kind) {
            return isWithin(kind, 0, MANY - 1);
        }

        static boolean isOf(int kind, int wanted) {
            int k = kind;
            for (int step = 0; step < MANY && k != TOP; step++) {
                if (k == wanted) {
                    return true;
                }
                k = ABOVE[k];
            }
            return false;
        }

        static int letsOf(int kind, int asDoor, int wide, boolean isOpen) {
            int asHeavy = asDoor / 2;
            int asLattice = asDoor + 3;
            switch (kind) {
                case HEAVY: return asHeavy;
                case VAULT: return isOpen ? asHeavy : 0;
                case LATTICE: return asLattice;
                case SCREEN: return Math.min(10, asLattice);
                case FLUE: return wide;
                default: return asDoor;
            }
        }

        static int worthOf(int kind, int wide) {
            int asHeavy = wide + 20;
            int asLattice = 30 - wide;
            switch (kind) {
                case HEAVY: return asHeavy;
                case VAULT: return 2 * asHeavy;
                case LATTICE: return asLattice;
                case SCREEN: return asLattice - 5;
                case FLUE: return 2;
                default: return wide;
            }
        }
    }

    /** The doors of a hall, by their numbers. */
    private static final class Doors {
        static final int MOST = 10;
        static final int MOST_WIDE = 9;
        int many;
        int openSet;
        final int[] kind = new int[MOST];
        final int[] first = new int[MOST];
        final int[] second = new int[MOST];
        final int[] wide = new int[MOST];

        void takeFrom(Doors other) {
            many = other.many;
            openSet = other.openSet;
            System.arraycopy(other.kind, 0, kind, 0, MOST);
            System.arraycopy(other.first, 0, first, 0, MOST);
            System.arraycopy(other.second, 0, second, 0, MOST);
            System.arraycopy(other.wide, 0, wide, 0, MOST);
        }

        /** The caller has seen that there is room for it. */
        int add(int ofKind, int from, int to, int ofWidth) {
            int door = many;
            kind[door] = ofKind;
            first[door] = from;
            second[door] = to;
            wide[door] = ofWidth;
            many++;
            return door;
        }

        boolean has(int door) {
            return isWithin(door, 0, many - 1);
        }

        boolean isOpen(int door) {
            return (openSet >> door & 1) == 1;
        }

        void swing(int door, boolean toOpen) {
            openSet = toOpen ? openSet | 1 << door : openSet & ~(1 << door);
        }

        int openMany() {
            return Integer.bitCount(openSet);
        }
    }

    /** A text that was understood: numbers, names and signs, each sign behind what it works on. */
    private static final class Law {
        static final int FIRST_NAME = -1;
        static final int SECOND_NAME = -2;
        final int key;
        final int leaves;
        private final int[] code;

        Law(int key, int leaves, int[] code) {
            this.key = key;
            this.leaves = leaves;
            this.code = code;
        }

        /** What the reader reads keeps the stack within its ends; they are looked at here all the same. */
        int valueWith(int firstName, int secondName, int[] stack) {
            int top = 0;
            for (int i = 0; i < code.length; i++) {
                int step = code[i];
                if (step >= SECOND_NAME && top < stack.length) {
                    stack[top] = step == FIRST_NAME ? firstName : step == SECOND_NAME ? secondName : step;
                    top++;
                } else if (step == -'!' && top >= 1) {
                    stack[top - 1] = stack[top - 1] == 0 ? 1 : 0;
                } else if (top >= 2) {
                    top--;
                    stack[top - 1] = joined(-step, stack[top - 1], stack[top]);
                }
            }
            return stack[0];
        }

        private static int joined(int sign, int a, int b) {
            switch (sign) {
                case '+': return a + b;
                case '-': return a - b;
                case '*': return a * b;
                case '/': return b == 0 ? 0 : a / b;
                case '<': return a < b ? 1 : 0;
                case '=': return a == b ? 1 : 0;
                case '>': return a > b ? 1 : 0;
                case '&': return a != 0 && b != 0 ? 1 : 0;
                default: return a != 0 || b != 0 ? 1 : 0;
            }
        }
    }

    /** The texts told, and which of them count. */
    private static final class Laws {
        static final int LETS = 0;
        static final int GUST = 1;
        static final int FINE = 2;
        static final int KEYS = 3;
        static final int MOST = 14;
        private static final int MOST_LETS = 60;
        private static final int WIDTHS = Doors.MOST_WIDE + 1;
        private static final int LETS_KNOWN = Kinds.MANY * WIDTHS * 2;
        int many;
        final int[] counting = {NONE, NONE, NONE};
        private final Law[] laws = new Law[MOST];
        /** LETS hangs on KIND, WIDE and OPEN alone: worked out once for each text, not for each flow. */
        private final int[] lets = new int[LETS_KNOWN];
        private final int[] stack = new int[MOST_TAPE];

        Laws() {
            workOutLets();
        }

        void takeFrom(Laws other) {
            many = other.many;
            for (int i = 0; i < MOST; i++) {
                laws[i] = other.laws[i];
            }
            System.arraycopy(other.counting, 0, counting, 0, KEYS);
            System.arraycopy(other.lets, 0, lets, 0, LETS_KNOWN);
        }

        /** The caller has seen that there is room for it. */
        int add(Law law) {
            int number = many;
            laws[number] = law;
            counting[law.key] = number;
            many++;
            if (law.key == LETS) {
                workOutLets();
            }
            return number;
        }

        Law lawAt(int number) {
            return isWithin(number, 0, many - 1) ? laws[number] : null;
        }

        int valueOf(int key, int firstName, int secondName, int without) {
            Law law = lawAt(counting[key]);
            return law == null ? without : law.valueWith(firstName, secondName, stack);
        }

        int letsOf(int kind, int wide, int open01) {
            return lets[(kind * WIDTHS + wide) * 2 + open01];
        }

        private void workOutLets() {
            for (int wide = 1; wide < WIDTHS; wide++) {
                for (int open01 = 0; open01 <= 1; open01++) {
                    int asDoor = heldWithin(valueOf(LETS, wide, open01, 6 * wide * open01), 0, MOST_LETS);
                    for (int kind = 0; kind < Kinds.MANY; kind++) {
                        lets[(kind * WIDTHS + wide) * 2 + open01] = Kinds.letsOf(kind, asDoor, wide, open01 == 1);
                    }
                }
            }
        }
    }

    /** The tape, and how it is read, word by word, as a text. */
    private static final class Tape {
        private static final int END = 0;
        private static final int LETTERS = 1;
        private static final int DIGITS = 2;
        private static final int SIGN = 3;
        /** A word that stands right behind another one: nothing goes on with it. */
        private static final int CRAMMED = 4;
        private static final int LOOSEST = 0;
        private static final int TESTS = 2;
        private static final int TIGHTEST = 4;
        private static final int MOST_WITHIN = 8;
        private static final int MOST_DIGITS = 4;

        private final byte[] bytes = new byte[MOST_TAPE];
        int length;
        private int start;
        private int end;
        private int sort;
        private int key;
        private int leaves;
        private final int[] code = new int[MOST_TAPE];
        private int codeLength;
        private int fault;

        /** The highest byte first. */
        void putBytes(int v) {
            for (int shift = 24; shift >= 0 && length < MOST_TAPE; shift -= 8) {
                bytes[length] = (byte) (v >>> shift);
                length++;
            }
        }

        /** The place of the fault, or NONE. */
        int faultFound() {
            end = 0;
            sort = END;
            leaves = 0;
            codeLength = 0;
            fault = NONE;
            step();
            readKey();
            if (fault == NONE) {
                readLevel(LOOSEST, 0, 0);
            }
            if (fault == NONE && sort != END) {
                fault = start;
            }
            return fault;
        }

        Law lawRead() {
            return new Law(key, leaves, Arrays.copyOf(code, codeLength));
        }

        private void readKey() {
            if (isWord("lets")) {
                key = Laws.LETS;
            } else if (isWord("gust")) {
                key = Laws.GUST;
            } else if (isWord("fine")) {
                key = Laws.FINE;
            } else {
                fault = start;
                return;
            }
            step();
        }

        private static String signsOf(int level) {
            switch (level) {
                case 0: return "|";
                case 1: return "&";
                case TESTS: return "<=>";
                case 3: return "+-";
                default: return "*/";
            }
        }

        private void readLevel(int level, int brackets, int nots) {
            if (level > TIGHTEST) {
                readPiece(brackets, nots);
                return;
            }
            readLevel(level + 1, brackets, nots);
            int most = level == TESTS ? 1 : MOST_TAPE;
            for (int i = 0; i < most && fault == NONE && isSignOf(signsOf(level)); i++) {
                int sign = bytes[start];
                step();
                readLevel(level + 1, brackets, nots);
                put(-sign);
            }
        }

        private void readPiece(int brackets, int nots) {
            if (sort == DIGITS && end - start <= MOST_DIGITS) {
                putLeaf(numberRead());
            } else if (isWord(firstName())) {
                putLeaf(Law.FIRST_NAME);
            } else if (isWord(secondName())) {
                putLeaf(Law.SECOND_NAME);
            } else if (isSignOf("!") && nots < MOST_WITHIN) {
                step();
                readPiece(brackets, nots + 1);
                put(-'!');
            } else if (isSignOf("(") && brackets < MOST_WITHIN) {
                step();
                readLevel(LOOSEST, brackets + 1, nots);
                closeBracket();
            } else {
                fault = start;
            }
        }

        private void closeBracket() {
            if (fault != NONE) {
                return;
            }
            if (isSignOf(")")) {
                step();
            } else {
                fault = start;
            }
        }

        private String firstName() {
            return key == Laws.LETS ? "w" : key == Laws.GUST ? "f" : "g";
        }

        private String secondName() {
            return key == Laws.LETS ? "o" : key == Laws.GUST ? "s" : "m";
        }

        private int numberRead() {
            int number = 0;
            for (int i = start; i < end; i++) {
                number = number * 10 + bytes[i] - '0';
            }
            return number;
        }

        private void putLeaf(int leaf) {
            put(leaf);
            leaves++;
            step();
        }

        private void put(int part) {
            if (codeLength < code.length) {
                code[codeLength] = part;
                codeLength++;
            }
        }

        private boolean isWord(String word) {
            if (sort != LETTERS || end - start != word.length()) {
                return false;
            }
            for (int i = 0; i < word.length(); i++) {
                if (bytes[start + i] != word.charAt(i)) {
                    return false;
                }
            }
            return true;
        }

        private boolean isSignOf(String signs) {
            return sort == SIGN && signs.indexOf((char) (bytes[start] & 255)) >= 0;
        }

        /** Goes on to the next word or sign. */
        private void step() {
            boolean wordAhead = sort == LETTERS || sort == DIGITS;
            int behind = end;
            start = end;
            while (start < length && bytes[start] == ' ') {
                start++;
            }
            sort = sortAt(start);
            end = start;
            if (sort == SIGN) {
                end++;
            } else if (sort != END) {
                while (end < length && sortAt(end) == sort) {
                    end++;
                }
                if (wordAhead && start == behind) {
                    sort = CRAMMED;
                }
            }
        }

        private int sortAt(int place) {
            if (place >= length) {
                return END;
            }
            int sign = bytes[place];
            if (sign >= 'a' && sign <= 'z') {
                return LETTERS;
            }
            return sign >= '0' && sign <= '9' ? DIGITS : SIGN;
        }
    }

    /** All that an image keeps; the rows of a minute stand with it, to be used again and again. */
    private static final class Hall {
        private static final int MOST_MINUTE = 9999;
        private static final int MOST_GUST = 999;
        private static final int GUST_WITHOUT_TEXT = 20;
        private static final int AIR_AT_FIRST = 1000;
        final Doors doors = new Doors();
        final Laws laws = new Laws();
        /** OUTSIDE stands behind the rooms: its air is the wind. */
        final int[] air = new int[ROOMS + 1];
        final int[] fire = new int[ROOMS];
        final int[] scent = new int[ROOMS];
        int litSet;
        int gone;
        int minute;
        int z = 1;
        final int[] flow = new int[Doors.MOST];
        final int[] draught = new int[ROOMS + 1];
        private final int[] scentAhead = new int[ROOMS];

        Hall() {
            Arrays.fill(air, AIR_AT_FIRST);
        }

        void takeFrom(Hall other) {
            doors.takeFrom(other.doors);
            laws.takeFrom(other.laws);
            takeAirFrom(other);
            System.arraycopy(other.fire, 0, fire, 0, ROOMS);
            System.arraycopy(other.scent, 0, scent, 0, ROOMS);
            litSet = other.litSet;
            gone = other.gone;
            minute = other.minute;
            z = other.z;
        }

        void takeAirFrom(Hall other) {
            System.arraycopy(other.air, 0, air, 0, ROOMS + 1);
        }

        boolean isLit(int room) {
            return (litSet >> room & 1) == 1;
        }

        void light(int room, boolean lit) {
            litSet = lit ? litSet | 1 << room : litSet & ~(1 << room);
        }

        int litMany() {
            return Integer.bitCount(litSet);
        }

        int airOfAll() {
            int all = 0;
            for (int room = 0; room < ROOMS; room++) {
                all += air[room];
            }
            return all;
        }

        int scentOfAll() {
            int all = 0;
            for (int room = 0; room < ROOMS; room++) {
                all += scent[room];
            }
            return all;
        }

        int minutesLeft() {
            return Math.max(0, MOST_MINUTE - minute);
        }

        int letsOf(int door) {
            return laws.letsOf(doors.kind[door], doors.wide[door], doors.openSet >> door & 1);
        }

        int flowOf(int door) {
            return (air[doors.first[door]] - air[doors.second[door]]) * letsOf(door) / 1000;
        }

        int draughtOf(int room) {
            measureFlows();
            return draught[room];
        }

        void measureFlows() {
            Arrays.fill(draught, 0);
            for (int door = 0; door < doors.many; door++) {
                flow[door] = flowOf(door);
                int size = Math.abs(flow[door]);
                draught[doors.first[door]] += size;
                draught[doors.second[door]] += size;
            }
        }

        boolean flowsAreNought() {
            for (int door = 0; door < doors.many; door++) {
                if (flow[door] != 0) {
                    return false;
                }
            }
            return true;
        }

        /** Ahead of moveAir: it goes by the air as it was. */
        void carryScent() {
            System.arraycopy(scent, 0, scentAhead, 0, ROOMS);
            for (int door = 0; door < doors.many; door++) {
                boolean forth = flow[door] > 0;
                int from = forth ? doors.first[door] : doors.second[door];
                int to = forth ? doors.second[door] : doors.first[door];
                if (flow[door] != 0 && from != OUTSIDE) {
                    // Scent can be poured in again and again, so that an int would not hold the product.
                    long carried = (long) scentAhead[from] * Math.abs(flow[door]) / Math.max(1, air[from]);
                    int goes = (int) Math.min(carried, scent[from]);
                    scent[from] -= goes;
                    if (to != OUTSIDE) {
                        scent[to] += goes;
                    }
                }
            }
        }

        void moveAir() {
            for (int door = 0; door < doors.many; door++) {
                air[doors.first[door]] -= flow[door];
                if (doors.second[door] == OUTSIDE) {
                    gone += flow[door];
                } else {
                    air[doors.second[door]] += flow[door];
                }
            }
            for (int room = 0; room < ROOMS; room++) {
                air[room] = Math.max(0, air[room] - fire[room]);
            }
        }

        private void snuffCandles() {
            for (int room = 0; room < ROOMS; room++) {
                if (isLit(room)) {
                    int gust = laws.valueOf(Laws.GUST, fire[room], scent[room], GUST_WITHOUT_TEXT);
                    if (draught[room] > heldWithin(gust, 0, MOST_GUST)) {
                        light(room, false);
                    }
                }
            }
        }

        void passMinute() {
            measureFlows();
            carryScent();
            moveAir();
            snuffCandles();
            minute++;
        }

        private int draw() {
            z = z * 1103515245 + 12345;
            return z >>> 8;
        }

        void drawDoor() {
            int kind = draw() % Kinds.MANY;
            int first = draw() % ROOMS;
            int second = (first + 1 + draw() % ROOMS) % (ROOMS + 1);
            int wide = 1 + draw() % Doors.MOST_WIDE;
            doors.swing(doors.add(kind, first, second, wide), true);
        }

        void goRound(int n) {
            for (int door = 0; door < doors.many; door++) {
                if (draw() % 100 < n) {
                    doors.swing(door, false);
                }
            }
        }
    }

    /** What will be, worked out in a hall of its own, so that nothing changes. */
    private static final class Thought {
        private static final int MOST_STILL = 200;
        private final Hall then = new Hall();

        Hall behindMinutes(Hall now, int n) {
            then.takeFrom(now);
            for (int i = 0; i < n; i++) {
                then.passMinute();
            }
            return then;
        }

        int minutesUntilStill(Hall now) {
            then.takeFrom(now);
            for (int n = 0; n <= MOST_STILL; n++) {
                then.measureFlows();
                if (then.flowsAreNought()) {
                    return n;
                }
                then.moveAir();
            }
            return NONE;
        }

        int fewestToShut(Hall now, int room, int d, int n) {
            then.takeFrom(now);
            int openNow = now.doors.openSet;
            int best = NONE;
            int fewest = Doors.MOST + 1;
            for (int shut = 0; shut <= openNow; shut++) {
                if ((shut & ~openNow) == 0 && Integer.bitCount(shut) < fewest) {
                    then.takeAirFrom(now);
                    then.doors.openSet = openNow & ~shut;
                    if (isCalm(room, d, n)) {
                        best = shut;
                        fewest = Integer.bitCount(shut);
                    }
                }
            }
            return best;
        }

        private boolean isCalm(int room, int d, int n) {
            for (int i = 0; i <= n; i++) {
                then.measureFlows();
                if (then.draught[room] > d) {
                    return false;
                }
                then.moveAir();
            }
            return true;
        }

        int roomsThatSmell(Hall now, int room, int n) {
            then.takeFrom(now);
            Arrays.fill(then.scent, 0);
            then.scent[room] = MOST_SCENT;
            for (int i = 0; i < n; i++) {
                then.measureFlows();
                then.carryScent();
                then.moveAir();
            }
            int set = 0;
            for (int other = 0; other < ROOMS; other++) {
                if (then.scent[other] > 0) {
                    set |= 1 << other;
                }
            }
            return set;
        }

        int litWith(Hall now, int door, boolean isOpen, int n) {
            then.takeFrom(now);
            then.doors.swing(door, isOpen);
            for (int i = 0; i < n; i++) {
                then.passMinute();
            }
            return then.litMany();
        }

        boolean allStayLit(Hall now, int windThen, int n) {
            then.takeFrom(now);
            then.air[OUTSIDE] = windThen;
            for (int i = 0; i < n && then.litSet == now.litSet; i++) {
                then.passMinute();
            }
            return then.litSet == now.litSet;
        }

        int likeliestDoor(Hall now, Sheet row, int n) {
            int best = NONE;
            int least = 0;
            for (int door = 0; door < now.doors.many; door++) {
                int difference = differenceWith(now, row, door, n);
                if (best == NONE || difference < least) {
                    best = door;
                    least = difference;
                }
            }
            return best;
        }

        int differenceWith(Hall now, Sheet row, int door, int n) {
            then.takeFrom(now);
            then.doors.swing(door, !now.doors.isOpen(door));
            for (int i = 0; i < n; i++) {
                then.measureFlows();
                then.moveAir();
            }
            int together = 0;
            for (int room = 0; room < ROOMS; room++) {
                if (row.hasNumber(room)) {
                    together += Math.abs(then.air[room] - row.places[room]);
                }
            }
            return together;
        }

        /** How many of the numbers told stand right, up to the first that does not. */
        int rightOnes(Hall image, int[] told, int toldMany, int n) {
            then.takeFrom(image);
            int minutes = Math.min(n, image.minutesLeft());
            int right = 0;
            for (int i = 0; i < minutes; i++) {
                then.passMinute();
                if (right >= toldMany || told[right] != then.airOfAll()) {
                    return right;
                }
                right++;
                if (right >= toldMany || told[right] != then.litSet) {
                    return right;
                }
                right++;
            }
            return right;
        }
    }

    /** A row of places, or none. */
    private static final class Sheet {
        static final int MISSING = -1;
        static final int SHORTS = 0;
        static final int FLOATS = 1;
        static final int MOST = 24;
        static final int MOST_FLOAT = 99999;
        /** Beyond all that a place of either sort can be. */
        static final int NO_NUMBER = NONE;
        int sort = MISSING;
        int many;
        final int[] places = new int[MOST];

        boolean isMissing() {
            return sort == MISSING;
        }

        void become(int newSort, int newMany) {
            sort = newSort;
            many = newMany;
            Arrays.fill(places, 0);
        }

        void takeFrom(Sheet other) {
            sort = other.sort;
            many = other.many;
            System.arraycopy(other.places, 0, places, 0, MOST);
        }

        boolean has(int place) {
            return isWithin(place, 0, many - 1);
        }

        boolean hasNumber(int place) {
            return has(place) && places[place] != NO_NUMBER;
        }

        boolean hasRange(int place, int howMany) {
            return place >= 0 && howMany >= 0 && place <= many && howMany <= many - place;
        }
    }

    /** What one slot holds. */
    private static final class Slot {
        static final int EMPTY = 0;
        static final int DOOR = 1;
        static final int SHEET = 2;
        static final int NUMBER = 3;
        int thing = EMPTY;
        int kind;
        int wide;
        int number;
        final Sheet row = new Sheet();
    }
}
