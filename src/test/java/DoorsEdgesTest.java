/** Promises 1 to 14, sentence by sentence: what is too small, too large, empty, full, refused. */
final class DoorsEdgesTest {
    private static final int BAD = OneDraught.BAD;
    private static int z;

    public static void main(String[] args) {
        newObject();
        door();
        told();
        as();
        turns();
        open();
        room();
        set();
        wind();
        deal();
        seed();
        run();
        runToTheEnd();
        footman();
        hall();
        Due.end();
    }

    private static int draw() {
        z = z * 1103515245 + 12345;
        return z >>> 8;
    }

    private static OneDraught tenDoors() {
        OneDraught x = new OneDraught();
        for (int i = 0; i < 10; i++) {
            x.door(0, 0, 1, 1);
            x.open(i, 1);
        }
        return x;
    }

    private static void newObject() {
        Due.says("As told; no DOORS.");
        OneDraught x = new OneDraught();
        Due.due("doors", x.count(0), 0);
        Due.due("doors that are open", x.hall(4), 0);
        Due.due("door 0", x.told(0, 0), BAD);
        Due.due("its first door", x.door(0, 0, 1, 1), 0);
        Due.due("of another object none came", new OneDraught().count(0), 0);
    }

    private static void door() {
        Due.says("One more DOOR, shut: its number.");
        int[][] edges = {{0, 0, 8, 1}, {5, 7, 8, 9}, {1, 0, 7, 1}, {2, 7, 0, 9}, {3, 1, 0, 1}, {4, 6, 7, 9}, {0, 7, 6, 5}};
        OneDraught x = new OneDraught();
        for (int i = 0; i < edges.length; i++) {
            Due.due("door " + i, x.door(edges[i][0], edges[i][1], edges[i][2], edges[i][3]), i);
            for (int what = 0; what < 4; what++) {
                Due.due("door " + i + ", " + what, x.told(i, what), edges[i][what]);
            }
            Due.due("it is shut", x.told(i, 4), 0);
            Due.due("one more", x.count(0), i + 1);
        }
        x.open(6, 1);
        x.keep();
        x.deal(3);
        x.back();
        Due.due("a door where one was that is there no more", x.door(0, 0, 1, 1), 7);
        Due.due("it is shut", x.told(7, 4), 0);
        doorRefused();
    }

    private static void doorRefused() {
        Due.says("BAD: kind, ends (from a ROOM, to another one or OUTSIDE), wide; FULL.");
        Twin.range("kind", 0, 5, (x, v) -> x.door(v, 0, 1, 1));
        Twin.range("from", 0, 7, (x, v) -> x.door(0, v, v == 0 ? 1 : 0, 1));
        Twin.range("to", 0, 8, (x, v) -> x.door(0, 3, v, 1));
        Twin.range("wide", 1, 9, (x, v) -> x.door(0, 0, 1, v));
        for (int room = 0; room < 8; room++) {
            int same = room;
            Twin.bad("from " + same + " to itself", x -> x.door(0, same, same, 1));
        }
        Twin.bad("from OUTSIDE to itself", x -> x.door(0, 8, 8, 1));
        Twin.refused("the eleventh", OneDraught.FULL, DoorsEdgesTest::tenDoors, x -> x.door(0, 0, 1, 1));
        Twin.refused("the eleventh, of a bad kind", BAD, DoorsEdgesTest::tenDoors, x -> x.door(6, 0, 1, 1));
        Twin.refused("the eleventh, with bad ends", BAD, DoorsEdgesTest::tenDoors, x -> x.door(0, 2, 2, 1));
        Twin.refused("the eleventh, too wide", BAD, DoorsEdgesTest::tenDoors, x -> x.door(0, 0, 1, 10));
        OneDraught x = new OneDraught();
        x.deal(9);
        Due.due("the tenth", x.door(0, 0, 1, 1), 9);
        Due.due("the eleventh, behind drawn ones", x.door(0, 0, 1, 1), OneDraught.FULL);
    }

    private static void told() {
        Due.says("Of a DOOR: what 0 KIND, 1 the first, 2 the second, 3 WIDE, 4 whether it is OPEN (1, 0), 5 LETS, 6 FLOW, 7 WORTH. BAD.");
        Twin.range("door", 0, 3, (x, v) -> x.told(v, 0));
        Twin.range("what", 0, 7, (x, v) -> x.told(0, v));
        Twin.tells("told", x -> x.told(0, 6));
        OneDraught x = new OneDraught();
        x.door(4, 7, 8, 9);
        x.wind(9999);
        x.set(7, 0, 0);
        int[] shut = {4, 7, 8, 9, 0, 3, -29, 16};
        int[] open = {4, 7, 8, 9, 1, 10, -99, 16};
        for (int what = 0; what < 8; what++) {
            x.open(0, 0);
            Due.due("shut, what " + what, x.told(0, what), shut[what]);
            x.open(0, 1);
            Due.due("open, what " + what, x.told(0, what), open[what]);
        }
        Due.due("a door behind the last of ten", tenDoors().told(10, 0), BAD);
        Due.due("the last of ten", tenDoors().told(9, 4), 1);
    }

    private static void as() {
        Due.says("A DOOR as one of a KIND: WIDE.");
        String[] fits = {"0", "01", "02", "013", "024", "05"};
        for (int kind = 0; kind < 6; kind++) {
            OneDraught x = new OneDraught();
            x.door(kind, 0, 1, 1 + kind);
            for (int k = 0; k < fits[kind].length(); k++) {
                Due.due(kind + " as one of " + fits[kind].charAt(k), x.as(0, fits[kind].charAt(k) - '0'), 1 + kind);
            }
        }
        Twin.tells("as", x -> x.as(0, 1));
        Due.says("BAD: door, kind; KIND: it is not of that KIND, nor of one under it.");
        Twin.range("door", 0, 3, (x, v) -> x.as(v, 0));
        Twin.range("kind", 0, 5, (x, v) -> x.as(0, v));
        for (int kind = 0; kind < 6; kind++) {
            int of = kind;
            for (int asked = 0; asked < 6; asked++) {
                int taken = asked;
                if (fits[kind].indexOf('0' + asked) < 0) {
                    Twin.refused(of + " is none of " + taken, OneDraught.KIND, () -> oneDoor(of), x -> x.as(0, taken));
                }
            }
        }
        Twin.bad("no door, nor a kind", x -> x.as(4, 6));
    }

    private static OneDraught oneDoor(int kind) {
        OneDraught x = new OneDraught();
        x.door(kind, 0, 1, 5);
        return x;
    }

    private static void turns() {
        Due.says("A DOOR is of another KIND from now on: what it was. BAD.");
        Twin.range("door", 0, 3, (x, v) -> x.turns(v, 1));
        Twin.range("kind", 0, 5, (x, v) -> x.turns(0, v));
        OneDraught x = oneDoor(0);
        x.open(0, 1);
        int[] round = {5, 0, 3, 4, 1, 2};
        int was = 0;
        for (int kind : round) {
            Due.due("turns to " + kind, x.turns(0, kind), was);
            Due.due("it is " + kind, x.told(0, 0), kind);
            was = kind;
        }
        Due.due("its width stays", x.told(0, 3), 5);
        Due.due("it stays open", x.told(0, 4), 1);
        Due.due("it is one of its kind now", x.as(0, 2), 5);
        Due.due("and none of what it was ahead of that", x.as(0, 1), OneDraught.KIND);
    }

    private static void open() {
        Due.says("A DOOR is OPEN (v 1) or shut (0): what it was. BAD.");
        Twin.range("door", 0, 3, (x, v) -> x.open(v, 1));
        Twin.range("v", 0, 1, (x, v) -> x.open(0, v));
        OneDraught x = tenDoors();
        Due.due("the last is open", x.open(9, 0), 1);
        Due.due("it was shut", x.open(9, 0), 0);
        Due.due("the others are open", x.hall(4), 511);
        Due.due("it opens", x.open(9, 1), 0);
        Due.due("it was open", x.open(9, 1), 1);
        Due.due("all are open", x.hall(4), 1023);
    }

    private static void room() {
        Due.says("Of a ROOM: what 0 AIR, 1 FIRE, 2 SCENT, 3 whether its CANDLE is LIT (1, 0), 4 DRAUGHT as it is. BAD.");
        Twin.range("room", 0, 7, (x, v) -> x.room(v, 0));
        Twin.range("what", 0, 4, (x, v) -> x.room(0, v));
        Twin.tells("room", x -> x.room(0, 4));
        OneDraught x = new OneDraught();
        x.set(7, 0, 9999);
        x.set(7, 1, 9);
        x.set(7, 2, 9999);
        x.set(7, 3, 1);
        x.door(5, 7, 8, 9);
        x.wind(0);
        int[] due = {9999, 9, 9999, 1, 89};
        for (int what = 0; what < 5; what++) {
            Due.due("room 7, " + what, x.room(7, what), due[what]);
        }
        Due.due("without a door no draught", x.room(0, 4), 0);
    }

    private static void set() {
        Due.says("AIR (0 .. 9999), FIRE, SCENT (0 .. 9999), LIT (0, 1) (what 0 .. 3) of a ROOM becomes v: what it was. BAD.");
        Twin.range("room", 0, 7, (x, v) -> x.set(v, 0, 5));
        Twin.range("what", 0, 3, (x, v) -> x.set(0, v, 0));
        Twin.bad("what 4, the draught", x -> x.set(0, 4, 0));
        int[] most = {9999, 9, 9999, 1};
        int[] first = {1000, 0, 0, 0};
        for (int i = 0; i < 4; i++) {
            int what = i;
            Twin.range("v of what " + what, 0, most[what], (x, v) -> x.set(0, what, v));
            for (int room = 0; room < 8; room += 7) {
                OneDraught x = new OneDraught();
                Due.due("what " + what + " at first", x.set(room, what, most[what]), first[what]);
                Due.due("it is the most", x.room(room, what), most[what]);
                Due.due("to the least", x.set(room, what, 0), most[what]);
                Due.due("it is the least", x.room(room, what), 0);
                Due.due("the room beside it stays", x.room(room == 0 ? 1 : 6, what), first[what]);
            }
        }
    }

    private static void wind() {
        Due.says("WIND becomes v: what it was. BAD.");
        Twin.range("wind", 0, 9999, (x, v) -> x.wind(v));
        OneDraught x = new OneDraught();
        Due.due("at first", x.wind(9999), 1000);
        Due.due("the most", x.count(3), 9999);
        Due.due("to the least", x.wind(0), 9999);
        Due.due("the least", x.count(3), 0);
        Due.due("it was the least", x.wind(1), 0);
        Due.due("air of no room", x.hall(1), 8000);
    }

    private static void deal() {
        Due.says("DOORS are drawn, n (1 .. 10) of them, as many as there is room for (no draws for others): how many came. BAD.");
        Twin.range("n", 1, 10, (x, v) -> x.deal(v));
        Twin.range("n, with ten doors", 1, 10, DoorsEdgesTest::tenDoors, (x, v) -> x.deal(v));
        for (int there = 0; there <= 10; there++) {
            for (int n = 1; n <= 10; n++) {
                OneDraught x = new OneDraught();
                for (int i = 0; i < there; i++) {
                    x.door(0, 0, 1, 1);
                }
                int came = Math.min(n, 10 - there);
                z = 1;
                for (int i = 0; i < 4 * came; i++) {
                    draw();
                }
                Due.due(n + " to " + there, x.deal(n), came);
                Due.due("doors then", x.count(0), there + came);
                Due.due("those that came are open", x.count(1), came);
                Due.due("no draws for others", x.count(8), z);
            }
        }
    }

    private static void seed() {
        Due.says("z becomes v: what it was.");
        OneDraught x = new OneDraught();
        int[] row = {0, -1, Integer.MIN_VALUE, Integer.MAX_VALUE, BAD, OneDraught.NONE, 1};
        int was = 1;
        for (int v : row) {
            Due.due("seed " + v, x.seed(v), was);
            Due.due("z", x.count(8), v);
            was = v;
        }
    }

    private static void run() {
        Due.says("n (1 .. 100) MINUTES (no more than up to 9999): how many CANDLES went out in them. BAD.");
        Twin.range("n", 1, 100, (x, v) -> x.run(v));
        OneDraught x = new OneDraught();
        x.run(1);
        Due.due("the least", x.count(2), 1);
        x.run(100);
        Due.due("the most", x.count(2), 101);
        Due.due("none was lit", x.run(1), 0);
        OneDraught all = new OneDraught();
        for (int room = 0; room < 8; room++) {
            all.set(room, 3, 1);
            all.set(room, 0, room % 2 == 0 ? 9999 : 0);
            all.door(0, room, room == 7 ? 0 : room + 1, 9);
            all.open(room, 1);
        }
        Due.due("all eight", all.run(1), 8);
        Due.due("none is left", all.run(100), 0);
        OneDraught two = new OneDraught();
        two.set(0, 0, 9999);
        two.door(0, 0, 1, 9);
        two.door(0, 1, 2, 9);
        two.open(0, 1);
        two.open(1, 1);
        two.set(0, 3, 1);
        two.set(2, 3, 1);
        two.set(7, 3, 1);
        // the first goes out in the first MINUTE, the second in the second: 485 times 54 is above 20000
        Due.due("in both of them", two.run(2), 2);
    }

    private static OneDraught burningAt(int minute) {
        OneDraught x = Twin.atMinute(minute);
        x.set(0, 0, 9999);
        x.set(0, 1, 9);
        return x;
    }

    private static void runToTheEnd() {
        int[] ahead = {9898, 9899, 9900, 9998, 9999};
        for (int minute : ahead) {
            int left = Math.min(100, 9999 - minute);
            OneDraught x = burningAt(minute);
            Due.due("the minute", x.count(2), minute);
            Due.due("no candle", x.run(100), 0);
            Due.due("behind " + minute, x.count(2), minute + left);
            Due.due("minutes that went", x.room(0, 0), 9999 - 9 * left);
        }
        OneDraught last = burningAt(9999);
        last.door(0, 0, 1, 9);
        last.open(0, 1);
        last.set(0, 3, 1);
        Due.due("no candle goes out any more", last.run(1), 0);
        Due.due("it is lit", last.room(0, 3), 1);
        Twin.refused("n is looked at all the same", BAD, () -> burningAt(9999), x -> x.run(101));
    }

    private static void footman() {
        Due.says("A FOOTMAN (n 0 .. 100): how many DOORS were OPEN and are shut then. BAD.");
        Twin.range("n", 0, 100, (x, v) -> x.footman(v));
        OneDraught x = tenDoors();
        Due.due("n 0: none", x.footman(0), 0);
        Due.due("all are open", x.hall(4), 1023);
        x.open(3, 0);
        x.open(9, 0);
        Due.due("n 100: all that were open", x.footman(100), 8);
        Due.due("none is open", x.hall(4), 0);
        Due.due("none was open", x.footman(100), 0);
        Due.due("no doors", new OneDraught().footman(100), 0);
    }

    private static void hall() {
        Due.says("What was 0 GONE, 1 AIR of all ROOMS, 2 SCENT of all, 3 CANDLES that are LIT, as a set, 4 DOORS that are OPEN, as a set. BAD.");
        Twin.range("what", 0, 4, (x, v) -> x.hall(v));
        Twin.tells("hall", x -> x.hall(1));
        OneDraught x = tenDoors();
        for (int room = 0; room < 8; room++) {
            x.set(room, 0, 9999);
            x.set(room, 2, 9999);
            x.set(room, 3, 1);
        }
        int[] most = {0, 79992, 79992, 255, 1023};
        for (int what = 0; what < 5; what++) {
            Due.due("the most of " + what, x.hall(what), most[what]);
        }
        for (int room = 0; room < 8; room++) {
            x.set(room, 0, 0);
            x.set(room, 2, 0);
            x.set(room, 3, 0);
        }
        x.footman(100);
        for (int what = 0; what < 5; what++) {
            Due.due("the least of " + what, x.hall(what), 0);
        }
    }
}
