/** Promises 28 to 36: sheets and slots. */
final class SheetsTest {
    public static void main(String[] args) {
        sheet();
        mark();
        pour();
        reads();
        copy();
        lay();
        ask();
        item();
        rest();
        Due.end();
    }

    private static int at(OneDraught x, int sheet, int place) {
        x.lay(4, 2, sheet);
        return x.item(4, place);
    }

    private static void sheet() {
        OneDraught x = new OneDraught();
        Due.due("sheet", x.sheet(3, 1, 24), 24);
        x.mark(3, 0, 9);
        Due.due("a mark", at(x, 3, 0), 9);
        Due.due("anew", x.sheet(3, 0, 3), 3);
        Due.due("all 0", at(x, 3, 0), 0);
        Due.due("of 3", x.mark(3, 3, 1), OneDraught.INDEX);
        Due.due("none", x.sheet(3, 0, 0), 0);
        Due.due("it is there", x.reads(3), OneDraught.NONE);
        Due.due("missing", x.sheet(3, -1, 7), 0);
        Due.due("it is missing", x.reads(3), OneDraught.NOTHING);
        Due.due("missing, n far above", x.sheet(3, -1, 1000), 0);
        Due.due("missing, n below 0", x.sheet(3, -1, -1000), 0);
        Due.due("sheet 4", x.sheet(4, 0, 1), OneDraught.BAD);
        Due.due("sheet -1", x.sheet(-1, 0, 1), OneDraught.BAD);
        Due.due("sheet 4, n below 0", x.sheet(4, 0, -1), OneDraught.BAD);
        Due.due("sort 2", x.sheet(0, 2, 1), OneDraught.BAD);
        Due.due("sort -2", x.sheet(0, -2, 1), OneDraught.BAD);
        Due.due("sort 2, n below 0", x.sheet(0, 2, -1), OneDraught.BAD);
        Due.due("n 25", x.sheet(0, 0, 25), OneDraught.BAD);
        Due.due("n -1", x.sheet(0, 0, -1), OneDraught.SIZE);
        Due.due("n the least", x.sheet(0, 1, Integer.MIN_VALUE), OneDraught.SIZE);
        Due.due("still missing", x.reads(0), OneDraught.NOTHING);
        x.sheet(0, 0, 2);
        x.mark(0, 1, 5);
        x.sheet(0, 0, -1);
        x.sheet(0, 0, 25);
        Due.due("refused, as it was", at(x, 0, 1), 5);
    }

    private static void mark() {
        OneDraught x = new OneDraught();
        x.sheet(0, 0, 4);
        x.sheet(1, 1, 4);
        Due.due("mark", x.mark(0, 0, 32767), 1);
        Due.due("a short", at(x, 0, 0), 32767);
        x.mark(0, 1, 32768);
        Due.due("its lowest 16 bits", at(x, 0, 1), -32768);
        x.mark(0, 2, 0x12345678);
        Due.due("its lowest 16 bits too", at(x, 0, 2), 0x5678);
        Due.due("NONE in shorts", x.mark(0, 0, OneDraught.NONE), OneDraught.KIND);
        Due.due("BAD in shorts", x.mark(0, 0, OneDraught.BAD), 1);
        Due.due("its bits", at(x, 0, 0), (short) OneDraught.BAD);
        Due.due("a float", x.mark(1, 0, 99999), 1);
        Due.due("it", at(x, 1, 0), 99999);
        Due.due("a float below", x.mark(1, 1, -99999), 1);
        Due.due("it", at(x, 1, 1), -99999);
        Due.due("a float too much", x.mark(1, 0, 100000), OneDraught.BAD);
        Due.due("a float too little", x.mark(1, 0, -100000), OneDraught.BAD);
        Due.due("as it was", at(x, 1, 0), 99999);
        Due.due("no number", x.mark(1, 0, OneDraught.NONE), 1);
        Due.due("it is none", at(x, 1, 0), OneDraught.KIND);
        Due.due("a number again", x.mark(1, 0, 0), 1);
        Due.due("it is one", at(x, 1, 0), 0);
        Due.due("sheet 4", x.mark(4, 0, 0), OneDraught.BAD);
        Due.due("sheet -1", x.mark(-1, 0, 0), OneDraught.BAD);
        Due.due("missing", x.mark(2, 99, OneDraught.NONE), OneDraught.NOTHING);
        Due.due("place 4", x.mark(0, 4, OneDraught.NONE), OneDraught.INDEX);
        Due.due("place -1", x.mark(1, -1, 100000), OneDraught.INDEX);
    }

    private static void pour() {
        OneDraught x = new OneDraught();
        x.sheet(0, 1, 10);
        x.set(3, 2, 50);
        x.set(4, 2, 60);
        x.set(7, 2, 70);
        x.mark(0, 0, 99999);
        x.mark(0, 1, -3);
        x.mark(0, 2, 17);
        x.mark(0, 3, OneDraught.NONE);
        x.mark(0, 4, 60);
        x.mark(0, 8, 3);
        Due.due("pour", x.pour(0), 3);
        int[] due = {9999, 0, 17, 50, 60, 0, 0, 0};
        for (int room = 0; room < 8; room++) {
            Due.due("scent of " + room, x.room(room, 2), due[room]);
        }
        Due.due("pour again", x.pour(0), 0);
        x.sheet(1, 0, 1);
        x.mark(1, 0, 4);
        Due.due("pour one", x.pour(1), 1);
        Due.due("beyond the sheet it stays", x.hall(2), 4 + 17 + 50 + 60);
        x.sheet(1, 0, 0);
        Due.due("pour none", x.pour(1), 0);
        Due.due("sheet 4", x.pour(4), OneDraught.BAD);
        Due.due("sheet -1", x.pour(-1), OneDraught.BAD);
        Due.due("missing", x.pour(2), OneDraught.NOTHING);
    }

    private static void reads() {
        OneDraught x = new OneDraught();
        x.sheet(0, 1, 10);
        for (int i = 0; i < 8; i++) {
            x.set(i, 0, 100 * i);
            x.mark(0, i, 100 * i);
        }
        Due.due("no room 8", x.reads(0), 8);
        x.mark(0, 8, OneDraught.NONE);
        Due.due("no room 9", x.reads(0), 9);
        x.mark(0, 9, OneDraught.NONE);
        Due.due("all as they are", x.reads(0), OneDraught.NONE);
        x.mark(0, 7, 701);
        Due.due("the last room", x.reads(0), 7);
        x.mark(0, 2, OneDraught.NONE);
        Due.due("no number counts not", x.reads(0), 7);
        x.mark(0, 0, 1);
        Due.due("the first", x.reads(0), 0);
        x.sheet(1, 0, 2);
        x.mark(1, 1, 100);
        Due.due("a short one", x.reads(1), OneDraught.NONE);
        Due.due("sheet 4", x.reads(4), OneDraught.BAD);
        Due.due("sheet -1", x.reads(-1), OneDraught.BAD);
        Due.due("missing", x.reads(2), OneDraught.NOTHING);
    }

    private static void copy() {
        OneDraught x = new OneDraught();
        x.sheet(0, 0, 6);
        x.sheet(1, 0, 4);
        x.sheet(2, 1, 4);
        for (int i = 0; i < 6; i++) {
            x.mark(0, i, i + 1);
        }
        Due.due("copy", x.copy(0, 2, 1, 1, 3), 3);
        int[] there = {0, 3, 4, 5};
        for (int i = 0; i < 4; i++) {
            Due.due("copied " + i, at(x, 1, i), there[i]);
        }
        Due.due("forth in itself", x.copy(0, 0, 0, 1, 5), 5);
        int[] forth = {1, 1, 2, 3, 4, 5};
        for (int i = 0; i < 6; i++) {
            Due.due("as they were " + i, at(x, 0, i), forth[i]);
        }
        Due.due("back in itself", x.copy(0, 2, 0, 0, 4), 4);
        int[] back = {2, 3, 4, 5, 4, 5};
        for (int i = 0; i < 6; i++) {
            Due.due("as they were " + i, at(x, 0, i), back[i]);
        }
        x.mark(2, 0, OneDraught.NONE);
        x.copy(2, 0, 2, 3, 1);
        Due.due("no number is copied", at(x, 2, 3), OneDraught.KIND);
        Due.due("none, at the ends", x.copy(0, 6, 1, 4, 0), 0);
        Due.due("too many from", x.copy(0, 3, 1, 0, 4), OneDraught.INDEX);
        Due.due("too many to", x.copy(0, 0, 1, 2, 3), OneDraught.INDEX);
        Due.due("place -1", x.copy(0, -1, 1, 0, 1), OneDraught.INDEX);
        Due.due("at -1", x.copy(0, 0, 1, -1, 1), OneDraught.INDEX);
        Due.due("many -1", x.copy(0, 0, 1, 0, -1), OneDraught.INDEX);
        Due.due("place far", x.copy(0, Integer.MAX_VALUE, 1, 0, 1), OneDraught.INDEX);
        Due.due("many far", x.copy(0, 1, 1, 1, Integer.MAX_VALUE), OneDraught.INDEX);
        Due.due("two sorts", x.copy(0, 0, 2, 0, 1), OneDraught.KIND);
        Due.due("two sorts, no such place", x.copy(2, 99, 0, 99, 1), OneDraught.KIND);
        Due.due("missing from", x.copy(3, 99, 0, 0, 1), OneDraught.NOTHING);
        Due.due("missing to", x.copy(0, 0, 3, 0, 1), OneDraught.NOTHING);
        Due.due("from 4", x.copy(4, 0, 3, 0, 1), OneDraught.BAD);
        Due.due("from -1", x.copy(-1, 0, 0, 0, 1), OneDraught.BAD);
        Due.due("to 4", x.copy(3, 0, 4, 0, 1), OneDraught.BAD);
        Due.due("to -1", x.copy(0, 0, -1, 0, 1), OneDraught.BAD);
    }

    private static void lay() {
        OneDraught x = new OneDraught();
        x.door(1, 0, 1, 5);
        x.sheet(0, 0, 2);
        Due.due("a door", x.lay(0, 1, 0), 0);
        Due.due("a sheet", x.lay(0, 2, 0), 1);
        Due.due("a number", x.lay(0, 3, Integer.MIN_VALUE), 2);
        Due.due("nothing, k any", x.lay(0, 0, -77), 3);
        Due.due("nothing was there", x.lay(0, 0, 99), 0);
        Due.due("slot 5", x.lay(5, 0, 0), OneDraught.BAD);
        Due.due("slot -1", x.lay(-1, 0, 0), OneDraught.BAD);
        Due.due("thing 4", x.lay(0, 4, 0), OneDraught.BAD);
        Due.due("thing -1", x.lay(0, -1, 0), OneDraught.BAD);
        Due.due("door 1", x.lay(0, 1, 1), OneDraught.BAD);
        Due.due("door -1", x.lay(0, 1, -1), OneDraught.BAD);
        Due.due("sheet 4", x.lay(0, 2, 4), OneDraught.BAD);
        Due.due("sheet -1", x.lay(0, 2, -1), OneDraught.BAD);
        Due.due("missing", x.lay(0, 2, 1), OneDraught.NOTHING);
        Due.due("refused, nothing is there", x.lay(4, 3, 1), 0);
        x.lay(4, 2, 1);
        Due.due("refused, as it was", x.rest(4, 7), 1);
    }

    private static void ask() {
        OneDraught x = new OneDraught();
        int[] worth = {5, 25, 25, 50, 20, 2};
        String[] fits = {"0", "01", "02", "013", "024", "05"};
        for (int kind = 0; kind < 6; kind++) {
            x.door(kind, 0, 1, 5);
            x.lay(1, 1, kind);
            for (int asked = 0; asked < 6; asked++) {
                boolean is = fits[kind].indexOf('0' + asked) >= 0;
                Due.due("ask " + kind + " as " + asked, x.ask(1, asked), is ? worth[kind] : OneDraught.KIND);
            }
        }
        x.lay(1, 1, 3);
        x.turns(3, 5);
        Due.due("for good", x.ask(1, 3), 50);
        x.keep();
        x.back();
        Due.due("beside images", x.ask(1, 3), 50);
        Due.due("slot 5", x.ask(5, 0), OneDraught.BAD);
        Due.due("slot -1", x.ask(-1, 0), OneDraught.BAD);
        Due.due("kind 6, nothing", x.ask(0, 6), OneDraught.BAD);
        Due.due("kind -1", x.ask(1, -1), OneDraught.BAD);
        Due.due("nothing", x.ask(0, 0), OneDraught.NOTHING);
        x.lay(0, 3, 5);
        Due.due("a number", x.ask(0, 0), OneDraught.KIND);
        x.sheet(0, 0, 1);
        x.lay(0, 2, 0);
        Due.due("a sheet", x.ask(0, 0), OneDraught.KIND);
    }

    private static void item() {
        OneDraught x = new OneDraught();
        x.sheet(0, 1, 3);
        x.mark(0, 0, 7);
        x.mark(0, 1, OneDraught.NONE);
        x.lay(2, 2, 0);
        x.mark(0, 0, 8);
        Due.due("as it was then", x.item(2, 0), 7);
        x.sheet(0, -1, 0);
        Due.due("a row of its own", x.item(2, 2), 0);
        Due.due("no number", x.item(2, 1), OneDraught.KIND);
        Due.due("place 3", x.item(2, 3), OneDraught.INDEX);
        Due.due("place -1", x.item(2, -1), OneDraught.INDEX);
        Due.due("slot 5", x.item(5, 0), OneDraught.BAD);
        Due.due("slot -1", x.item(-1, 0), OneDraught.BAD);
        Due.due("nothing", x.item(0, 99), OneDraught.NOTHING);
        x.lay(0, 3, 1);
        Due.due("a number", x.item(0, 99), OneDraught.KIND);
        x.door(0, 0, 1, 1);
        x.lay(0, 1, 0);
        Due.due("a door", x.item(0, 0), OneDraught.KIND);
    }

    private static void rest() {
        OneDraught x = new OneDraught();
        x.lay(3, 3, 17);
        Due.due("rest", x.rest(3, 5), 2);
        Due.due("rest by -5", x.rest(3, -5), 2);
        x.lay(3, 3, -17);
        Due.due("rest of -17", x.rest(3, 5), -2);
        x.lay(3, 3, Integer.MIN_VALUE);
        Due.due("the least by -1", x.rest(3, -1), 0);
        Due.due("by 0", x.rest(3, 0), OneDraught.NO);
        Due.due("slot 5", x.rest(5, 0), OneDraught.BAD);
        Due.due("slot -1", x.rest(-1, 1), OneDraught.BAD);
        Due.due("nothing by 0", x.rest(0, 0), OneDraught.NOTHING);
        x.sheet(0, 0, 1);
        x.lay(0, 2, 0);
        Due.due("a sheet by 0", x.rest(0, 0), OneDraught.KIND);
        x.door(0, 0, 1, 1);
        x.lay(0, 1, 0);
        Due.due("a door", x.rest(0, 1), OneDraught.KIND);
    }
}
