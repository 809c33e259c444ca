/** Promises 28 to 36 and what Terms 5 says of SHEETS and SLOTS, sentence by sentence. */
final class SheetsEdgesTest {
    private static final int BAD = OneDraught.BAD;
    private static final int NONE = OneDraught.NONE;
    private static final int NOTHING = OneDraught.NOTHING;
    private static final int KIND = OneDraught.KIND;
    private static final int INDEX = OneDraught.INDEX;
    private static final int SIZE = OneDraught.SIZE;

    public static void main(String[] args) {
        atFirst();
        noNumber();
        slots();
        findings();
        sheet();
        mark();
        markRefused();
        pour();
        reads();
        copy();
        copyRefused();
        lay();
        ask();
        item();
        rest();
        Due.end();
    }

    private static int at(OneDraught x, int sheet, int place) {
        x.lay(4, 2, sheet);
        return x.item(4, place);
    }

    private static void atFirst() {
        Due.says("SHEETS 0 .. 3 are rows of shorts (sort 0) or floats (1; whole numbers), with 0 to 24 places, or MISSING (at first).");
        OneDraught x = new OneDraught();
        for (int sheet = 0; sheet < 4; sheet++) {
            Due.due("missing at first, " + sheet, x.reads(sheet), NOTHING);
            for (int sort = 0; sort < 2; sort++) {
                Due.due("no place", x.sheet(sheet, sort, 0), 0);
                Due.due("it is there, without places", x.mark(sheet, 0, 1), INDEX);
                Due.due("24 places", x.sheet(sheet, sort, 24), 24);
                Due.due("the last", x.mark(sheet, 23, 1), 1);
                Due.due("none behind it", x.mark(sheet, 24, 1), INDEX);
                Due.due("25 places", x.sheet(sheet, sort, 25), BAD);
                Due.due("it is as it was", at(x, sheet, 23), 1);
            }
        }
        Due.due("no sheet 4", x.reads(4), BAD);
        Due.due("no sheet -1", x.reads(-1), BAD);
    }

    private static void noNumber() {
        Due.says("A place of floats may be NO NUMBER.");
        OneDraught x = new OneDraught();
        x.sheet(0, 1, 24);
        Due.due("the first", x.mark(0, 0, NONE), 1);
        Due.due("the last", x.mark(0, 23, NONE), 1);
        Due.due("it is none", at(x, 0, 0), KIND);
        Due.due("it is none", at(x, 0, 23), KIND);
        Due.due("the one beside it is 0", at(x, 0, 1), 0);
        Due.due("a number again", x.mark(0, 0, 0), 1);
        Due.due("it is 0", at(x, 0, 0), 0);
        x.sheet(0, 1, 24);
        Due.due("a new row has none", at(x, 0, 23), 0);
    }

    private static void slots() {
        Due.says("SLOTS 0 .. 4 each hold nothing (at first), a DOOR (as it is then, for good), a SHEET (a row of its own, as it was then), or a number.");
        OneDraught x = new OneDraught();
        x.door(1, 0, 1, 9);
        x.sheet(0, 0, 2);
        x.mark(0, 0, 7);
        for (int slot = 0; slot < 5; slot++) {
            Due.due("nothing at first, " + slot, x.rest(slot, 1), NOTHING);
            Due.due("a door", x.lay(slot, 1, 0), 0);
        }
        x.lay(1, 2, 0);
        x.lay(2, 3, 17);
        x.turns(0, 5);
        x.mark(0, 0, 8);
        x.mark(0, 1, 9);
        Due.due("the door as it was", x.ask(0, 1), 29);
        Due.due("it is no flue", x.ask(0, 5), KIND);
        Due.due("the row as it was", x.item(1, 0), 7);
        Due.due("the row as it was, behind it", x.item(1, 1), 0);
        x.sheet(0, 1, 1);
        Due.due("of as many places", x.item(1, 1), 0);
        x.sheet(0, -1, 0);
        Due.due("though the sheet is missing", x.item(1, 0), 7);
        OneDraught y = new OneDraught();
        y.keep();
        y.door(3, 0, 1, 1);
        y.lay(0, 1, 0);
        y.back();
        Due.due("though the door is there no more", y.ask(0, 3), 42);
        Due.due("no such door to lay", y.lay(1, 1, 0), BAD);
        y.door(0, 0, 1, 9);
        Due.due("nor another one in its place", y.ask(0, 0), 42);
    }

    private static void findings() {
        Due.says("FINDINGS: NOTHING: a SHEET is MISSING, a SLOT holds nothing; INDEX: there is no such place; SIZE: a number of places is below 0; KIND: it is none (of a KIND, a number, or another thing).");
        Twin.refused("a missing sheet", NOTHING, x -> x.pour(3));
        Twin.refused("a slot with nothing", NOTHING, x -> x.rest(0, 1));
        Twin.refused("no such place", INDEX, x -> x.mark(0, 3, 1));
        Twin.refused("fewer than no places", SIZE, x -> x.sheet(0, 0, -1));
        Twin.refused("none of a kind", KIND, x -> x.ask(1, 2));
        Twin.refused("no number", KIND, x -> x.item(2, 1));
        Twin.refused("another thing", KIND, x -> x.rest(2, 1));
    }

    private static void sheet() {
        Due.says("A SHEET becomes a row of n places of a sort, all 0 (sort -1: MISSING, n any): n (0).");
        for (int sort = 0; sort < 2; sort++) {
            OneDraught x = new OneDraught();
            Due.due("24", x.sheet(3, sort, 24), 24);
            for (int place = 0; place < 24; place++) {
                x.mark(3, place, 5);
            }
            Due.due("the same again", x.sheet(3, sort, 24), 24);
            for (int place = 0; place < 24; place++) {
                Due.due("all 0, " + place, at(x, 3, place), 0);
            }
            Due.due("none behind", at(x, 3, 24), INDEX);
            Due.due("one", x.sheet(3, 1 - sort, 1), 1);
            Due.due("one is there", at(x, 3, 0), 0);
            Due.due("two are not", at(x, 3, 1), INDEX);
            Due.due("of the other sort", x.mark(3, 0, NONE), sort == 0 ? 1 : KIND);
            Due.due("none", x.sheet(3, sort, 0), 0);
            Due.due("not one is there", at(x, 3, 0), INDEX);
        }
        int[] any = {0, 24, 25, -1, Integer.MIN_VALUE, Integer.MAX_VALUE};
        for (int n : any) {
            OneDraught x = Twin.furnished();
            Due.due("missing, n " + n, x.sheet(0, -1, n), 0);
            Due.due("it is missing", x.reads(0), NOTHING);
            Due.due("missing again", x.sheet(0, -1, n), 0);
        }
        Due.says("BAD: sheet, sort, n above 24; SIZE.");
        Twin.range("sheet", 0, 3, (x, v) -> x.sheet(v, 0, 1));
        Twin.range("sheet to be missing", 0, 3, (x, v) -> x.sheet(v, -1, 0));
        Twin.range("sort", -1, 1, (x, v) -> x.sheet(0, v, 1));
        int[] above = {25, 26, 1000, Integer.MAX_VALUE};
        for (int n : above) {
            Twin.bad("n " + n, x -> x.sheet(0, 0, n));
            Twin.bad("n of floats " + n, x -> x.sheet(3, 1, n));
        }
        int[] below = {-1, -2, -24, Integer.MIN_VALUE};
        for (int n : below) {
            Twin.refused("n " + n, SIZE, x -> x.sheet(0, 0, n));
            Twin.refused("n of floats " + n, SIZE, x -> x.sheet(3, 1, n));
            Twin.bad("no sheet, n " + n, x -> x.sheet(4, 0, n));
            Twin.bad("no sort, n " + n, x -> x.sheet(0, -2, n));
        }
    }

    private static void mark() {
        Due.says("A place of a SHEET becomes v (of shorts its lowest 16 bits; of floats v, -99999 .. 99999; NONE: NO NUMBER): 1.");
        OneDraught x = new OneDraught();
        x.sheet(0, 0, 3);
        x.sheet(1, 1, 3);
        int[][] shorts = {{0, 0}, {32767, 32767}, {32768, -32768}, {65535, -1}, {65536, 0}, {65537, 1}, {-1, -1}, {-32768, -32768},
            {-32769, 32767}, {-65536, 0}, {Integer.MAX_VALUE, -1}, {Integer.MIN_VALUE, 0}, {99999, -31073}, {100000, -31072}};
        for (int[] row : shorts) {
            Due.due("mark " + row[0], x.mark(0, 1, row[0]), 1);
            Due.due("the lowest 16 bits of " + row[0], at(x, 0, 1), row[1]);
        }
        int[] floats = {0, 1, -1, 32768, 99998, 99999, -99998, -99999, 16777};
        for (int v : floats) {
            Due.due("mark " + v, x.mark(1, 1, v), 1);
            Due.due("as it is, " + v, at(x, 1, 1), v);
        }
        Due.due("the places beside it", at(x, 0, 0) + at(x, 0, 2) + at(x, 1, 0) + at(x, 1, 2), 0);
        Due.due("no number", x.mark(1, 1, NONE), 1);
        Due.due("it is none", at(x, 1, 1), KIND);
        Due.due("the next below NONE in shorts", x.mark(0, 0, NONE - 1), 1);
        Due.due("the next above NONE in shorts", x.mark(0, 0, NONE + 1), 1);
    }

    private static void markRefused() {
        Due.says("BAD: sheet; NOTHING; INDEX; KIND: NONE in a row of shorts; BAD: v of floats.");
        Twin.range("sheet", 0, 3, (x, v) -> x.mark(v, 0, 1));
        Twin.refused("a missing sheet", NOTHING, x -> x.mark(3, 0, 1));
        int[] places = {-1, 3, 4, 24, Integer.MIN_VALUE, Integer.MAX_VALUE};
        for (int place : places) {
            Twin.refused("place " + place, INDEX, x -> x.mark(0, place, 1));
            Twin.refused("place " + place + " of a missing sheet", NOTHING, x -> x.mark(3, place, 1));
            Twin.bad("place " + place + " of no sheet", x -> x.mark(4, place, 1));
            Twin.refused("place " + place + ", NONE", INDEX, x -> x.mark(0, place, NONE));
        }
        Twin.refused("a place of none", INDEX, x -> x.mark(2, 0, 1));
        Twin.refused("place 4 of floats, a bad v", INDEX, x -> x.mark(1, 4, 100000));
        Twin.refused("NONE in shorts", KIND, x -> x.mark(0, 0, NONE));
        Twin.refused("NONE in a missing sheet", NOTHING, x -> x.mark(3, 0, NONE));
        Twin.range("v of floats", -99999, 99999, (x, v) -> x.mark(1, 0, v));
        Twin.bad("v of floats right below NONE", x -> x.mark(1, 0, NONE - 1));
        Twin.bad("v of floats right above NONE", x -> x.mark(1, 0, NONE + 1));
    }

    private static void pour() {
        Due.says("SCENT of ROOMS, by numbers, becomes the places of a SHEET from 0 on (each held within 0 .. 9999; NO NUMBER, and beyond the SHEET: it stays): how many are otherwise then. BAD; NOTHING.");
        Twin.range("sheet", 0, 3, (x, v) -> x.pour(v));
        Twin.refused("a missing sheet", NOTHING, x -> x.pour(3));
        OneDraught x = new OneDraught();
        x.sheet(0, 1, 24);
        int[] given = {9999, 10000, 99999, 0, -1, -99999, 9998, 1};
        int[] held = {9999, 9999, 9999, 0, 0, 0, 9998, 1};
        for (int room = 0; room < 8; room++) {
            x.mark(0, room, given[room]);
            x.set(room, 2, 50);
        }
        for (int place = 8; place < 24; place++) {
            x.mark(0, place, 77);
        }
        Due.due("all are otherwise", x.pour(0), 8);
        for (int room = 0; room < 8; room++) {
            Due.due("scent of " + room, x.room(room, 2), held[room]);
        }
        Due.due("none is otherwise", x.pour(0), 0);
        x.mark(0, 2, 9999);
        Due.due("the same, held, is not otherwise", x.pour(0), 0);
        for (int room = 0; room < 8; room++) {
            x.mark(0, room, NONE);
            x.set(room, 2, 60);
        }
        Due.due("no numbers", x.pour(0), 0);
        Due.due("it stays", x.hall(2), 480);
        x.mark(0, 7, 0);
        Due.due("the last alone", x.pour(0), 1);
        Due.due("the others stay", x.hall(2), 420);
        x.sheet(1, 0, 7);
        Due.due("seven places", x.pour(1), 7);
        x.set(7, 2, 9);
        Due.due("beyond the sheet it stays", x.pour(1), 0);
        Due.due("that of 7", x.hall(2), 9);
        x.sheet(1, 0, 0);
        Due.due("no places", x.pour(1), 0);
        x.sheet(1, 0, 1);
        x.mark(1, 0, 40000);
        x.set(0, 2, 5);
        Due.due("a short that went round", x.pour(1), 1);
        Due.due("is below 0, thus 0", x.room(0, 2), 0);
    }

    private static void reads() {
        Due.says("The first place (of numbers alone) at which a SHEET is not AIR of that ROOM (of places that are no ROOM all numbers are not). BAD; NOTHING; NONE: there is none.");
        Twin.range("sheet", 0, 3, (x, v) -> x.reads(v));
        Twin.refused("a missing sheet", NOTHING, x -> x.reads(3));
        Twin.tells("reads", x -> x.reads(1));
        OneDraught x = new OneDraught();
        x.sheet(0, 1, 24);
        for (int place = 0; place < 24; place++) {
            x.mark(0, place, place < 8 ? 1000 : NONE);
        }
        Due.due("all are as they are", x.reads(0), NONE);
        for (int room = 7; room >= 0; room--) {
            x.set(room, 0, 1001);
            Due.due("the first is " + room, x.reads(0), room);
        }
        for (int room = 0; room < 8; room++) {
            Due.due("the first is " + room, x.reads(0), room);
            x.mark(0, room, NONE);
        }
        Due.due("no numbers", x.reads(0), NONE);
        x.mark(0, 23, 0);
        Due.due("the last place", x.reads(0), 23);
        x.wind(0);
        x.mark(0, 8, 0);
        Due.due("the wind is of no room", x.reads(0), 8);
        x.sheet(1, 0, 0);
        Due.due("no places", x.reads(1), NONE);
        x.sheet(1, 0, 1);
        x.mark(1, 0, 1001);
        Due.due("one place", x.reads(1), NONE);
        x.mark(1, 0, 1001 + 65536);
        Due.due("one that went round", x.reads(1), NONE);
        x.set(0, 0, 0);
        Due.due("one too much", x.reads(1), 0);
    }

    private static OneDraught rows() {
        OneDraught x = new OneDraught();
        x.sheet(0, 0, 24);
        x.sheet(1, 0, 24);
        for (int place = 0; place < 24; place++) {
            x.mark(0, place, 100 + place);
            x.mark(1, place, 200 + place);
        }
        return x;
    }

    private static void copied(String what, int from, int place, int to, int at, int many) {
        OneDraught x = rows();
        Due.due(what, x.copy(from, place, to, at, many), many);
        for (int i = 0; i < 24; i++) {
            boolean came = i >= at && i < at + many;
            int due = came ? (from + 1) * 100 + place + i - at : (to + 1) * 100 + i;
            Due.due(what + ", place " + i, at(x, to, i), due);
            if (from != to) {
                Due.due(what + ", where it came from, " + i, at(x, from, i), (from + 1) * 100 + i);
            }
        }
    }

    private static void copy() {
        Due.says("So many places of a SHEET come to another one (or the same), as they were: many.");
        copied("all of it", 0, 0, 1, 0, 24);
        copied("the first to the last", 0, 0, 1, 23, 1);
        copied("the last to the first", 1, 23, 0, 0, 1);
        copied("none", 0, 5, 1, 5, 0);
        copied("none at the ends", 0, 24, 1, 24, 0);
        copied("forth in itself", 0, 0, 0, 1, 23);
        copied("back in itself", 0, 1, 0, 0, 23);
        copied("half over itself, forth", 1, 2, 1, 5, 9);
        copied("half over itself, back", 1, 5, 1, 2, 9);
        copied("onto itself", 0, 0, 0, 0, 24);
        OneDraught x = new OneDraught();
        x.sheet(0, 1, 2);
        x.sheet(1, 1, 2);
        x.mark(0, 0, NONE);
        x.mark(0, 1, -99999);
        Due.due("floats", x.copy(0, 0, 1, 0, 2), 2);
        Due.due("no number comes as such", at(x, 1, 0), KIND);
        Due.due("a float comes as it is", at(x, 1, 1), -99999);
        x.sheet(2, 0, 0);
        Due.due("none of no places", x.copy(2, 0, 2, 0, 0), 0);
    }

    private static void copyRefused() {
        Due.says("BAD; NOTHING; KIND: they are not of one sort; INDEX. (From a SHEET, its place, to a SHEET, its place.)");
        Twin.range("from", 0, 3, (x, v) -> x.copy(v, 0, 0, 0, 1));
        Twin.range("to", 0, 3, (x, v) -> x.copy(0, 0, v, 0, 1));
        Twin.bad("from a missing one to none", x -> x.copy(3, 0, 4, 0, 1));
        Twin.refused("from a missing one", NOTHING, x -> x.copy(3, 0, 0, 0, 1));
        Twin.refused("to a missing one", NOTHING, x -> x.copy(0, 0, 3, 0, 1));
        Twin.refused("a missing one to itself", NOTHING, x -> x.copy(3, 0, 3, 0, 0));
        Twin.refused("shorts to floats", KIND, x -> x.copy(0, 0, 1, 0, 1));
        Twin.refused("floats to shorts", KIND, x -> x.copy(1, 0, 0, 0, 1));
        Twin.refused("none, shorts to floats", KIND, x -> x.copy(0, 0, 1, 0, 0));
        Twin.refused("no places of shorts to floats", KIND, x -> x.copy(2, 0, 1, 0, 0));
        Twin.refused("shorts to floats, no such place", KIND, x -> x.copy(0, -1, 1, 99, -1));
        int[][] wrong = {{-1, 0, 1}, {0, -1, 1}, {0, 0, -1}, {3, 0, 1}, {0, 3, 1}, {0, 0, 4}, {1, 0, 3}, {0, 1, 3}, {4, 0, 0}, {0, 4, 0}, {-1, 0, 0},
            {0, -1, 0}, {-1, 0, 2}, {3, 3, -1}, {Integer.MAX_VALUE, 0, 1}, {0, Integer.MAX_VALUE, 1}, {1, 1, Integer.MAX_VALUE},
            {Integer.MIN_VALUE, 0, 1}, {0, Integer.MIN_VALUE, 1}, {0, 0, Integer.MIN_VALUE}, {Integer.MAX_VALUE, Integer.MAX_VALUE, Integer.MAX_VALUE},
            {Integer.MIN_VALUE, Integer.MIN_VALUE, Integer.MIN_VALUE}};
        for (int[] w : wrong) {
            Twin.refused("place " + w[0] + " at " + w[1] + ", " + w[2], INDEX, x -> x.copy(0, w[0], 0, w[1], w[2]));
        }
        Twin.refused("more than there is room for", INDEX, x -> x.copy(0, 0, 2, 0, 1));
        Twin.refused("more than there are", INDEX, x -> x.copy(2, 0, 0, 0, 1));
    }

    private static void lay() {
        Due.says("A SLOT holds: thing 0 nothing, 1 DOOR k, 2 SHEET k, 3 the number k: what it held (0 .. 3).");
        for (int slot = 0; slot < 5; slot++) {
            OneDraught x = Twin.furnished();
            x.lay(slot, 0, 0);
            for (int ahead = 0; ahead < 4; ahead++) {
                for (int thing = 0; thing < 4; thing++) {
                    x.lay(slot, ahead, 0);
                    Due.due("slot " + slot + ", " + thing + " behind " + ahead, x.lay(slot, thing, 0), ahead);
                }
            }
        }
        int[] numbers = {0, -1, Integer.MIN_VALUE, Integer.MAX_VALUE, BAD, NONE};
        for (int k : numbers) {
            OneDraught x = new OneDraught();
            Due.due("the number " + k, x.lay(0, 3, k), 0);
            Due.due("it is " + k, x.rest(0, Integer.MIN_VALUE), k % Integer.MIN_VALUE);
            Due.due("nothing, k " + k, x.lay(0, 0, k), 3);
            Due.due("it holds nothing", x.rest(0, 1), NOTHING);
        }
        Due.says("BAD: slot, thing, k; NOTHING: that SHEET is MISSING.");
        Twin.range("slot", 0, 4, (x, v) -> x.lay(v, 3, 1));
        Twin.range("thing", 0, 3, (x, v) -> x.lay(0, v, 0));
        Twin.range("door", 0, 3, (x, v) -> x.lay(0, 1, v));
        Twin.range("sheet", 0, 3, (x, v) -> x.lay(0, 2, v));
        Twin.refused("a missing sheet", NOTHING, x -> x.lay(1, 2, 3));
        Twin.refused("a missing sheet over another", NOTHING, x -> x.lay(2, 2, 3));
        Twin.bad("a missing sheet in no slot", x -> x.lay(-1, 2, 3));
        Twin.refused("no doors", BAD, OneDraught::new, x -> x.lay(0, 1, 0));
        Twin.refused("a door in no slot", BAD, x -> x.lay(5, 1, 0));
    }

    private static void ask() {
        Due.says("WORTH of the DOOR in a SLOT, taken for one of a KIND (0 .. 5). BAD; NOTHING; KIND: it is no DOOR, or not of that KIND, nor of one under it.");
        Twin.range("slot", 0, 4, (x, v) -> x.ask(v, 0));
        Twin.range("kind", 0, 5, (x, v) -> x.ask(1, v));
        Twin.range("kind, with nothing there", 0, 5, (x, v) -> x.ask(0, v));
        Twin.range("kind, of a sheet", 0, 5, (x, v) -> x.ask(2, v));
        Twin.refused("nothing", NOTHING, x -> x.ask(0, 0));
        Twin.refused("a sheet", KIND, x -> x.ask(2, 0));
        Twin.refused("a number", KIND, x -> x.ask(3, 0));
        Twin.tells("ask", x -> x.ask(1, 0));
        String[] fits = {"0", "01", "02", "013", "024", "05"};
        int[][] worth = {{1, 21, 29, 42, 24, 2}, {9, 29, 21, 58, 16, 2}};
        for (int kind = 0; kind < 6; kind++) {
            for (int i = 0; i < 2; i++) {
                OneDraught x = new OneDraught();
                x.door(kind, 7, 8, i == 0 ? 1 : 9);
                x.lay(4, 1, 0);
                for (int asked = 0; asked < 6; asked++) {
                    int due = fits[kind].indexOf('0' + asked) >= 0 ? worth[i][kind] : KIND;
                    Due.due(kind + " taken for one of " + asked, x.ask(4, asked), due);
                }
            }
        }
        OneDraught x = new OneDraught();
        x.door(3, 0, 1, 9);
        x.lay(0, 1, 0);
        x.lay(0, 0, 0);
        Due.due("a door that was taken away", x.ask(0, 3), NOTHING);
    }

    private static void item() {
        Due.says("A place of the SHEET in a SLOT. BAD: slot; NOTHING; KIND: it is no SHEET; INDEX; KIND: NO NUMBER.");
        Twin.range("slot", 0, 4, (x, v) -> x.item(v, 0));
        int[] places = {-1, 4, 24, Integer.MIN_VALUE, Integer.MAX_VALUE};
        for (int place : places) {
            Twin.refused("place " + place, INDEX, x -> x.item(2, place));
            Twin.refused("place " + place + " of nothing", NOTHING, x -> x.item(0, place));
            Twin.refused("place " + place + " of a door", KIND, x -> x.item(1, place));
            Twin.refused("place " + place + " of a number", KIND, x -> x.item(3, place));
            Twin.bad("place " + place + " of no slot", x -> x.item(5, place));
        }
        Twin.refused("no number", KIND, x -> x.item(2, 1));
        Twin.tells("item", x -> x.item(2, 0));
        OneDraught x = rows();
        x.lay(0, 2, 1);
        Due.due("the first", x.item(0, 0), 200);
        Due.due("the last", x.item(0, 23), 223);
        Due.due("none behind it", x.item(0, 24), INDEX);
        x.sheet(1, 0, 0);
        x.lay(0, 2, 1);
        Due.due("a sheet without places", x.item(0, 0), INDEX);
        Due.due("floats", Twin.furnished().item(2, 0), 99999);
        Due.due("floats below 0", Twin.furnished().item(2, 2), -5);
    }

    private static void rest() {
        Due.says("The rest of the number in a SLOT by n. BAD: slot; NOTHING; KIND: it is no number; NO: n is 0.");
        Twin.range("slot", 0, 4, (x, v) -> x.rest(v, 1));
        Twin.refused("nothing", NOTHING, x -> x.rest(0, 1));
        Twin.refused("nothing by 0", NOTHING, x -> x.rest(0, 0));
        Twin.refused("a door", KIND, x -> x.rest(1, 1));
        Twin.refused("a door by 0", KIND, x -> x.rest(1, 0));
        Twin.refused("a sheet", KIND, x -> x.rest(2, 1));
        Twin.refused("a sheet by 0", KIND, x -> x.rest(2, 0));
        Twin.refused("by 0", OneDraught.NO, x -> x.rest(3, 0));
        Twin.bad("no slot by 0", x -> x.rest(5, 0));
        Twin.tells("rest", x -> x.rest(3, 7));
        int least = Integer.MIN_VALUE;
        int most = Integer.MAX_VALUE;
        int[][] rows = {{17, 5, 2}, {17, -5, 2}, {-17, 5, -2}, {-17, -5, -2}, {0, 5, 0}, {5, 1, 0}, {5, 6, 5}, {least, -1, 0}, {least, 1, 0},
            {least, least, 0}, {most, least, most}, {least, most, -1}, {most, most, 0}, {-1, least, -1}};
        for (int[] row : rows) {
            OneDraught x = new OneDraught();
            x.lay(4, 3, row[0]);
            Due.due(row[0] + " by " + row[1], x.rest(4, row[1]), row[2]);
        }
        OneDraught zero = new OneDraught();
        zero.lay(0, 3, 0);
        Due.due("0 by 0", zero.rest(0, 0), OneDraught.NO);
    }
}
