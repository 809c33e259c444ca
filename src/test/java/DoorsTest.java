/** Promises 1 to 6, 10, 11, 13: doors, kinds, draws, footmen. */
final class DoorsTest {
    public static void main(String[] args) {
        newObject();
        door();
        told();
        letsByText();
        as();
        turns();
        open();
        deal();
        seed();
        footman();
        Due.end();
    }

    private static void newObject() {
        OneDraught x = new OneDraught();
        int[] counts = {0, 0, 0, 1000, 0, 0, 0, 0, 1};
        for (int what = 0; what < counts.length; what++) {
            Due.due("new count(" + what + ")", x.count(what), counts[what]);
        }
        int[] ofRoom = {1000, 0, 0, 0, 0};
        for (int room = 0; room < 8; room++) {
            for (int what = 0; what < 5; what++) {
                Due.due("new room(" + room + ", " + what + ")", x.room(room, what), ofRoom[what]);
            }
        }
        int[] ofHall = {0, 8000, 0, 0, 0};
        for (int what = 0; what < 5; what++) {
            Due.due("new hall(" + what + ")", x.hall(what), ofHall[what]);
        }
        for (int i = 0; i < 4; i++) {
            Due.due("new reads(" + i + ")", x.reads(i), OneDraught.NOTHING);
        }
        for (int i = 0; i < 5; i++) {
            Due.due("new rest(" + i + ", 1)", x.rest(i, 1), OneDraught.NOTHING);
        }
        for (int key = 0; key < 3; key++) {
            Due.due("new why(" + key + ")", x.why(key), OneDraught.NONE);
        }
        Due.due("new back()", x.back(), OneDraught.NO);
    }

    private static void door() {
        OneDraught x = new OneDraught();
        int[][] bad = {{-1, 0, 1, 1}, {6, 0, 1, 1}, {0, -1, 1, 1}, {0, 8, 1, 1}, {0, 0, -1, 1}, {0, 0, 9, 1},
            {0, 3, 3, 1}, {0, 0, 1, 0}, {0, 0, 1, 10}, {0, 8, 8, 1}};
        for (int[] b : bad) {
            Due.due("bad door", x.door(b[0], b[1], b[2], b[3]), OneDraught.BAD);
        }
        Due.due("no door came", x.count(0), 0);
        for (int i = 0; i < 10; i++) {
            Due.due("door " + i, x.door(i % 6, i % 8, 8, 1 + i % 9), i);
            Due.due("it is shut", x.told(i, 4), 0);
        }
        Due.due("an eleventh", x.door(0, 0, 1, 1), OneDraught.FULL);
        Due.due("a bad eleventh", x.door(0, 0, 1, 10), OneDraught.BAD);
        Due.due("doors", x.count(0), 10);
        Due.due("two doors between the same", new OneDraught().door(0, 7, 0, 9), 0);
    }

    private static void told() {
        OneDraught x = new OneDraught();
        int[] wide = {9, 9, 5, 7, 9, 4};
        int[] letsShut = {0, 0, 3, 0, 3, 4};
        int[] letsOpen = {54, 27, 33, 21, 10, 4};
        int[] worth = {9, 29, 25, 54, 16, 2};
        x.set(2, 0, 3500);
        for (int kind = 0; kind < 6; kind++) {
            x.door(kind, 2, 3, wide[kind]);
            Due.due("kind", x.told(kind, 0), kind);
            Due.due("first", x.told(kind, 1), 2);
            Due.due("second", x.told(kind, 2), 3);
            Due.due("wide", x.told(kind, 3), wide[kind]);
            Due.due("lets, shut, of " + kind, x.told(kind, 5), letsShut[kind]);
            Due.due("worth of " + kind, x.told(kind, 7), worth[kind]);
            x.open(kind, 1);
            Due.due("open", x.told(kind, 4), 1);
            Due.due("lets, open, of " + kind, x.told(kind, 5), letsOpen[kind]);
            Due.due("flow of " + kind, x.told(kind, 6), 2500 * letsOpen[kind] / 1000);
        }
        x.set(3, 0, 3599);
        Due.due("flow back, cut towards 0", x.told(0, 6), -5);
        x.door(4, 0, 8, 1);
        x.open(6, 1);
        Due.due("a narrow screen", x.told(6, 5), 9);
        x.wind(0);
        Due.due("flow to outside", x.told(6, 6), 9);
        x.wind(9999);
        Due.due("flow from outside", x.told(6, 6), -80);
        Due.due("no such door", x.told(7, 0), OneDraught.BAD);
        Due.due("door -1", x.told(-1, 0), OneDraught.BAD);
        Due.due("what 8", x.told(0, 8), OneDraught.BAD);
        Due.due("what -1", x.told(0, -1), OneDraught.BAD);
    }

    private static void letsByText() {
        OneDraught x = new OneDraught();
        for (int kind = 0; kind < 6; kind++) {
            x.door(kind, 0, 1, 7);
        }
        Tape.told(x, "lets w*3+o*99");
        int[] shut = {21, 10, 24, 0, 10, 7};
        int[] open = {60, 30, 63, 30, 10, 7};
        for (int kind = 0; kind < 6; kind++) {
            Due.due("lets by text, shut, of " + kind, x.told(kind, 5), shut[kind]);
            x.open(kind, 1);
            Due.due("lets by text, open, of " + kind, x.told(kind, 5), open[kind]);
        }
        Tape.told(x, "lets 0-5");
        int[] below = {0, 0, 3, 0, 3, 7};
        for (int kind = 0; kind < 6; kind++) {
            Due.due("lets below 0, of " + kind, x.told(kind, 5), below[kind]);
        }
    }

    private static void as() {
        OneDraught x = new OneDraught();
        String[] fits = {"0", "01", "02", "013", "024", "05"};
        for (int kind = 0; kind < 6; kind++) {
            x.door(kind, 0, 1, kind + 1);
            for (int asked = 0; asked < 6; asked++) {
                boolean is = fits[kind].indexOf('0' + asked) >= 0;
                Due.due("as(" + kind + ", " + asked + ")", x.as(kind, asked), is ? kind + 1 : OneDraught.KIND);
            }
        }
        Due.due("as, no door", x.as(6, 0), OneDraught.BAD);
        Due.due("as, door -1", x.as(-1, 0), OneDraught.BAD);
        Due.due("as, kind 6", x.as(0, 6), OneDraught.BAD);
        Due.due("as, kind -1", x.as(0, -1), OneDraught.BAD);
    }

    private static void turns() {
        OneDraught x = new OneDraught();
        x.door(1, 0, 1, 4);
        Due.due("turns", x.turns(0, 3), 1);
        Due.due("it turned", x.told(0, 0), 3);
        Due.due("its worth turned", x.told(0, 7), 48);
        Due.due("turns to itself", x.turns(0, 3), 3);
        Due.due("turns, kind 6", x.turns(0, 6), OneDraught.BAD);
        Due.due("turns, kind -1", x.turns(0, -1), OneDraught.BAD);
        Due.due("turns, no door", x.turns(1, 0), OneDraught.BAD);
        Due.due("turns, door -1", x.turns(-1, 0), OneDraught.BAD);
        Due.due("it is as it was", x.told(0, 0), 3);
    }

    private static void open() {
        OneDraught x = new OneDraught();
        x.door(0, 0, 1, 4);
        x.door(0, 1, 2, 4);
        Due.due("open", x.open(1, 1), 0);
        Due.due("open again", x.open(1, 1), 1);
        Due.due("only that one", x.hall(4), 2);
        Due.due("shut", x.open(1, 0), 1);
        Due.due("shut again", x.open(1, 0), 0);
        Due.due("open 2", x.open(1, 2), OneDraught.BAD);
        Due.due("open -1", x.open(1, -1), OneDraught.BAD);
        Due.due("open, no door", x.open(2, 1), OneDraught.BAD);
        Due.due("open, door -1", x.open(-1, 1), OneDraught.BAD);
        Due.due("none is open", x.hall(4), 0);
    }

    private static int z;

    private static int draw() {
        z = z * 1103515245 + 12345;
        return z >>> 8;
    }

    private static void deal() {
        for (int seed = -3; seed < 20; seed++) {
            OneDraught x = new OneDraught();
            x.seed(seed * 7919);
            z = seed * 7919;
            Due.due("deal(7)", x.deal(7), 7);
            Due.due("deal(4), room for 3", x.deal(4), 3);
            for (int door = 0; door < 10; door++) {
                int kind = draw() % 6;
                int first = draw() % 8;
                int second = (first + 1 + draw() % 8) % 9;
                Due.due("dealt kind", x.told(door, 0), kind);
                Due.due("dealt first", x.told(door, 1), first);
                Due.due("dealt second", x.told(door, 2), second);
                Due.due("dealt wide", x.told(door, 3), 1 + draw() % 9);
                Due.due("dealt open", x.told(door, 4), 1);
            }
            Due.due("z behind the deal", x.count(8), z);
            Due.due("no room", x.deal(10), 0);
            Due.due("no draws", x.count(8), z);
        }
        OneDraught x = new OneDraught();
        Due.due("deal(0)", x.deal(0), OneDraught.BAD);
        Due.due("deal(11)", x.deal(11), OneDraught.BAD);
        Due.due("deal(-1)", x.deal(-1), OneDraught.BAD);
        Due.due("nothing drawn", x.count(8), 1);
        Due.due("deal(10)", x.deal(10), 10);
        Due.due("deal(1)", new OneDraught().deal(1), 1);
    }

    private static void seed() {
        OneDraught x = new OneDraught();
        Due.due("seed", x.seed(Integer.MIN_VALUE), 1);
        Due.due("seed again", x.seed(OneDraught.BAD), Integer.MIN_VALUE);
        Due.due("z", x.count(8), OneDraught.BAD);
    }

    private static void footman() {
        for (int seed = 0; seed < 30; seed++) {
            OneDraught x = new OneDraught();
            for (int door = 0; door < 10; door++) {
                x.door(0, 0, 1, 1);
                x.open(door, door == 3 ? 0 : 1);
            }
            int n = seed * 4 % 101;
            x.seed(seed);
            z = seed;
            int open = 0;
            for (int door = 0; door < 10; door++) {
                boolean stays = draw() % 100 >= n;
                open |= stays && door != 3 ? 1 << door : 0;
            }
            Due.due("footman(" + n + ")", x.footman(n), 9 - Integer.bitCount(open));
            Due.due("those that stay open", x.hall(4), open);
            Due.due("z behind the footman", x.count(8), z);
        }
        OneDraught x = new OneDraught();
        Due.due("footman without doors", x.footman(100), 0);
        Due.due("no draws", x.count(8), 1);
        x.door(0, 0, 1, 1);
        x.open(0, 1);
        Due.due("footman(0)", x.footman(0), 0);
        Due.due("a draw all the same", x.count(8), 1103515245 + 12345);
        Due.due("footman(-1)", x.footman(-1), OneDraught.BAD);
        Due.due("footman(101)", x.footman(101), OneDraught.BAD);
        Due.due("footman(100)", x.footman(100), 1);
    }
}
