/** Promises 37 to 41: numbers that wait, images, counts. */
final class RowsTest {
    public static void main(String[] args) {
        tell();
        check();
        checkAtTheEnd();
        checkByTheImage();
        keepAndBack();
        what();
        Due.end();
    }

    private static void tell() {
        OneDraught x = new OneDraught();
        for (int i = 1; i <= 60; i++) {
            Due.due("tell", x.tell(i), i);
        }
        Due.due("60 wait", x.tell(61), OneDraught.FULL);
        Due.due("they wait", x.count(6), 60);
    }

    private static OneDraught hall() {
        OneDraught x = new OneDraught();
        x.door(0, 0, 1, 9);
        x.open(0, 1);
        x.door(5, 1, 8, 9);
        x.set(0, 0, 3000);
        x.set(0, 1, 3);
        x.set(0, 3, 1);
        x.set(1, 3, 1);
        x.set(5, 3, 1);
        x.wind(0);
        return x;
    }

    private static int[] minutes(OneDraught x, int n) {
        int[] told = new int[2 * n];
        for (int i = 0; i < n; i++) {
            x.run(1);
            told[2 * i] = x.hall(1);
            told[2 * i + 1] = x.hall(3);
        }
        return told;
    }

    private static void tellAll(OneDraught x, int[] told, int many) {
        for (int i = 0; i < many; i++) {
            x.tell(told[i]);
        }
    }

    private static void check() {
        OneDraught x = hall();
        int[] told = minutes(hall(), 30);
        Due.due("air by hand", told[0], 10000 - 9 - 3);
        Due.due("candles by hand", told[1], 32);
        x.tell(1);
        Due.due("no image", x.check(3), OneDraught.NO);
        Due.due("none wait", x.count(6), 0);
        x.tell(1);
        Due.due("bad ahead of no", x.check(31), OneDraught.BAD);
        Due.due("none wait", x.count(6), 0);
        x.keep();
        for (int n = 1; n <= 30; n++) {
            tellAll(x, told, 2 * n);
            Due.due("all right, " + n, x.check(n), 0);
            Due.due("none wait", x.count(6), 0);
        }
        tellAll(x, told, 60);
        Due.due("one too many", x.check(29), 59);
        Due.due("all are missing", x.check(2), 1);
        for (int i = 0; i < 6; i++) {
            tellAll(x, told, i);
            Due.due("the one behind " + i + " is missing", x.check(3), i + 1);
        }
    }

    private static void checkWrongOnes(OneDraught x, int[] told) {
        for (int i = 0; i < 6; i++) {
            told[i]++;
            tellAll(x, told, 6);
            Due.due("the one behind " + i + " is not right", x.check(3), i + 1);
            told[i]--;
        }
        x.tell(0);
        Due.due("check(0)", x.check(0), OneDraught.BAD);
        Due.due("none wait", x.count(6), 0);
        Due.due("check(-1)", x.check(-1), OneDraught.BAD);
        Due.due("nothing went", x.count(2), 0);
    }

    private static void checkAtTheEnd() {
        OneDraught x = hall();
        x.keep();
        checkWrongOnes(x, minutes(hall(), 3));
        for (int i = 0; i < 99; i++) {
            x.run(100);
        }
        x.run(97);
        x.keep();
        int[] told = minutes(x, 2);
        Due.due("9999", x.count(2), 9999);
        tellAll(x, told, 4);
        Due.due("fewer", x.check(30), 0);
        tellAll(x, told, 4);
        x.tell(told[2]);
        Due.due("one beyond the end", x.check(30), 5);
        x.keep();
        Due.due("no minutes", x.check(30), 0);
        x.tell(told[2]);
        Due.due("no minutes, a number", x.check(30), 1);
    }

    private static void checkByTheImage() {
        OneDraught x = hall();
        Tape.told(x, "gust 40");
        x.keep();
        OneDraught same = hall();
        Tape.told(same, "gust 40");
        int[] told = minutes(same, 5);
        x.open(0, 0);
        x.turns(1, 1);
        x.set(0, 0, 5);
        x.set(1, 1, 5);
        x.wind(333);
        Tape.told(x, "gust 0");
        Tape.told(x, "lets 7");
        x.run(9);
        tellAll(x, told, 10);
        Due.due("by the image", x.check(5), 0);
        Due.due("nothing changes", x.count(2), 9);
        tellAll(x, told, 10);
        Due.due("again", x.check(5), 0);
    }

    private static void keepAndBack() {
        OneDraught x = hall();
        x.set(3, 2, 77);
        Tape.told(x, "fine 5");
        Tape.told(x, "lets w");
        x.seed(99);
        x.run(4);
        Due.due("keep", x.keep(), 2);
        long ahead = state(x);
        for (int again = 0; again < 3; again++) {
            x.deal(3);
            x.open(0, 0);
            x.turns(1, 4);
            x.set(0, 0, 1);
            x.set(0, 1, 1);
            x.set(3, 2, 1);
            x.set(7, 3, 1);
            x.wind(5);
            Tape.told(x, "fine 6");
            Tape.told(x, "lets 1");
            Tape.told(x, "gust 1");
            x.run(3);
            x.sheet(0, 0, again);
            x.lay(0, 3, again);
            x.tell(again);
            x.feed(1, 2, 3);
            Due.holds("it is otherwise", state(x) != ahead);
            Due.due("back", x.back(), 2);
            Due.due("as it was", state(x), ahead);
            Due.due("slots stay", x.rest(0, 100), again);
            Due.due("numbers wait on", x.count(6), again + 1);
            Due.due("the tape stays", x.count(7), 12);
            Due.due("the text that counts", x.why(2), 0);
            Due.due("no such text any more", x.textTold(2, 0), OneDraught.BAD);
            x.trim(0);
        }
        Due.due("sheets stay", x.mark(0, 1, 5), 1);
        x.run(1);
        x.door(0, 5, 6, 1);
        Due.due("keep again", x.keep(), 3);
        Due.due("back to the last", x.back(), 3);
        Due.due("its minute", x.count(2), 5);
        OneDraught y = new OneDraught();
        Due.due("no image", y.back(), OneDraught.NO);
        Due.due("keep without doors", y.keep(), 0);
        y.deal(4);
        Due.due("back without doors", y.back(), 0);
        Due.due("no doors", y.told(0, 0), OneDraught.BAD);
        Due.due("none open", y.count(1), 0);
        y.door(5, 0, 8, 9);
        y.door(5, 0, 8, 9);
        y.wind(0);
        y.back();
        y.wind(0);
        Due.due("no draught by doors that are not there", y.room(0, 4), 0);
        y.run(1);
        Due.due("no flow either", y.hall(1), 8000);
        Due.due("nor to outside", y.hall(0), 0);
    }

    private static long state(OneDraught x) {
        long sum = x.fine();
        for (int room = 0; room < 8; room++) {
            for (int what = 0; what < 5; what++) {
                sum = sum * 31 + x.room(room, what);
            }
        }
        for (int what = 0; what < 5; what++) {
            sum = sum * 31 + x.hall(what);
        }
        int[] counts = {0, 1, 2, 3, 4, 5, 8};
        for (int what : counts) {
            sum = sum * 31 + x.count(what);
        }
        for (int door = 0; door < 10; door++) {
            for (int what = 0; what < 8; what++) {
                sum = sum * 31 + x.told(door, what);
            }
        }
        for (int key = 0; key < 3; key++) {
            sum = sum * 31 + x.why(key);
        }
        return sum;
    }

    private static void what() {
        OneDraught x = hall();
        x.door(0, 3, 4, 1);
        x.run(2);
        Tape.told(x, "fine 5");
        x.tell(5);
        x.feed(1, 2, 3);
        x.seed(-8);
        int[] due = {3, 1, 2, 0, 1, 1, 1, 12, -8};
        for (int i = 0; i < due.length; i++) {
            Due.due("count(" + i + ")", x.count(i), due[i]);
        }
        Due.due("count(9)", x.count(9), OneDraught.BAD);
        Due.due("count(-1)", x.count(-1), OneDraught.BAD);
    }
}
