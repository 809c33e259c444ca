/** Promises 37 to 41 and what Terms 5 says of images and MINUTES TOLD, sentence by sentence. */
final class RowsEdgesTest {
    private static final int BAD = OneDraught.BAD;
    private static final int NO = OneDraught.NO;

    public static void main(String[] args) {
        tell();
        check();
        checkWrongOnes();
        checkAtTheEnd();
        minutesTold();
        image();
        keep();
        back();
        count();
        Due.end();
    }

    private static OneDraught telling(int many) {
        OneDraught x = new OneDraught();
        for (int i = 0; i < many; i++) {
            x.tell(i);
        }
        return x;
    }

    private static void tell() {
        Due.says("One more number waits: how many. FULL: 60 wait.");
        OneDraught x = new OneDraught();
        int[] any = {0, -1, Integer.MIN_VALUE, Integer.MAX_VALUE, BAD, OneDraught.NONE};
        for (int i = 1; i <= 60; i++) {
            Due.due("the " + i + "th", x.tell(any[i % 6]), i);
            Due.due("so many wait", x.count(6), i);
        }
        for (int v : any) {
            Twin.refused("one more than 60, " + v, OneDraught.FULL, () -> telling(60), y -> y.tell(v));
        }
        x.check(1);
        Due.due("none waits any more", x.tell(5), 1);
    }

    /** A fire in room 0 takes 9 of 9999 in each MINUTE; a candle in room 5 goes on, that in room 1 goes out at once. */
    private static OneDraught burning() {
        OneDraught x = new OneDraught();
        x.set(0, 0, 9999);
        x.set(0, 1, 9);
        x.set(5, 3, 1);
        x.set(1, 3, 1);
        x.set(2, 0, 5000);
        x.door(0, 1, 2, 9);
        x.open(0, 1);
        return x;
    }

    private static int due(int i) {
        return i % 2 == 0 ? 9999 + 5000 + 6000 - 9 * (i / 2 + 1) : 32;
    }

    private static OneDraught kept(int told) {
        OneDraught x = burning();
        x.keep();
        for (int i = 0; i < told; i++) {
            x.tell(due(i));
        }
        return x;
    }

    private static void check() {
        Due.says("The numbers that wait (none do then, whatever is answered) are THE MINUTES TOLD of n (1 .. 30; fewer, if THE MINUTE would be above 9999), two by two: 0; else 1 and how many stand right ahead of the first that is not (or is missing, or one too many).");
        for (int n = 1; n <= 30; n++) {
            OneDraught x = kept(2 * n);
            Due.due("all of " + n, x.check(n), 0);
            Due.due("none waits", x.count(6), 0);
            Due.due("all are missing then", x.check(n), 1);
        }
        for (int told = 0; told < 60; told++) {
            OneDraught x = kept(told);
            Due.due(told + " of 60", x.check(30), 1 + told);
            Due.due("none waits", x.count(6), 0);
        }
        for (int n = 1; n < 30; n++) {
            OneDraught one = kept(2 * n + 1);
            Due.due("one too many for " + n, one.check(n), 1 + 2 * n);
            Due.due("none waits", one.count(6), 0);
            OneDraught more = kept(60);
            Due.due("60 for " + n, more.check(n), 1 + 2 * n);
        }
        Due.says("BAD; NO: there is no IMAGE.");
        int[] outside = {0, 31, -1, Integer.MIN_VALUE, Integer.MAX_VALUE};
        for (int n : outside) {
            Twin.refused("n " + n, BAD, () -> kept(4), x -> x.check(n), () -> kept(0));
            Twin.refused("n " + n + ", no image", BAD, () -> telling(4), x -> x.check(n), OneDraught::new);
        }
        Twin.refused("no image", NO, () -> telling(4), x -> x.check(1), OneDraught::new);
        Twin.refused("no image, 60 wait", NO, () -> telling(60), x -> x.check(30), OneDraught::new);
        Twin.refused("no image, none waits", NO, OneDraught::new, x -> x.check(30));
    }

    private static void checkWrongOnes() {
        int[] off = {1, -1, Integer.MIN_VALUE};
        for (int wrong = 0; wrong < 60; wrong++) {
            for (int by : off) {
                OneDraught x = burning();
                x.keep();
                for (int i = 0; i < 60; i++) {
                    x.tell(due(i) + (i == wrong ? by : 0));
                }
                Due.due("the one behind " + wrong + " is off by " + by, x.check(30), 1 + wrong);
                Due.due("none waits", x.count(6), 0);
            }
        }
        OneDraught two = burning();
        two.keep();
        int[] told = {due(0), 0, 0, 32};
        for (int v : told) {
            two.tell(v);
        }
        Due.due("the first that is not right", two.check(2), 2);
        OneDraught many = burning();
        many.keep();
        many.tell(due(0));
        many.tell(32);
        many.tell(0);
        Due.due("one too many, and wrong", many.check(1), 3);
    }

    private static OneDraught keptAt(int minute) {
        OneDraught x = Twin.atMinute(minute);
        x.set(0, 1, 9);
        x.keep();
        return x;
    }

    private static void checkAtTheEnd() {
        int[] minutes = {9968, 9969, 9970, 9998, 9999};
        for (int minute : minutes) {
            int left = Math.min(30, 9999 - minute);
            for (int more = -1; more <= 1; more++) {
                OneDraught x = keptAt(minute);
                int told = Math.max(0, Math.min(60, 2 * left + more));
                for (int i = 0; i < told; i++) {
                    x.tell(i % 2 == 0 ? 8000 - 9 * (i / 2 + 1) : 0);
                }
                Due.due(told + " from " + minute + " on", x.check(30), told == 2 * left ? 0 : 1 + Math.min(told, 2 * left));
                Due.due("the minute stays", x.count(2), minute);
            }
        }
        OneDraught back = keptAt(9998);
        back.run(1);
        back.tell(8000 - 9);
        back.tell(0);
        Due.due("by the minute of the image, not by that of now", back.check(30), 0);
    }

    private static void minutesTold() {
        Due.says("THE MINUTES TOLD: of n MINUTES, one behind the other, by THE IMAGE: AIR of all ROOMS, together; CANDLES that are LIT, as a set, behind each.");
        OneDraught x = new OneDraught();
        x.wind(0);
        x.set(7, 0, 3000);
        x.set(7, 3, 1);
        x.set(0, 3, 1);
        x.door(0, 7, 8, 9);
        x.open(0, 1);
        x.keep();
        x.tell(10000 - 162);
        x.tell(1);
        x.tell(10000 - 162 - 153);
        x.tell(1);
        Due.due("behind each, not ahead of it", x.check(2), 0);
        x.open(0, 0);
        x.set(0, 3, 0);
        x.wind(77);
        x.door(0, 0, 1, 9);
        Tape.told(x, "lets 60");
        x.tell(10000 - 162);
        x.tell(1);
        Due.due("by the image, whatever is now", x.check(1), 0);
        Twin.refused("nothing goes but the numbers", 0, Twin::furnished, y -> y.check(2), RowsEdgesTest::untold);
    }

    private static OneDraught untold() {
        OneDraught x = Twin.furnished();
        x.check(31);
        return x;
    }

    private static void image() {
        Due.says("AN IMAGE keeps all but SHEETS, SLOTS, numbers that wait, THE TAPE; all can become as it is (again and again).");
        OneDraught x = Twin.furnished();
        x.trim(0);
        x.keep();
        for (int again = 0; again < 2; again++) {
            x.deal(10);
            x.turns(0, 5);
            x.footman(100);
            for (int room = 0; room < 8; room++) {
                x.set(room, 0, 7);
                x.set(room, 1, 7);
                x.set(room, 2, 7);
                x.set(room, 3, 1 - x.room(room, 3));
            }
            x.wind(9999);
            x.run(3);
            x.seed(7);
            Tape.told(x, "lets 9");
            Tape.told(x, "gust 9");
            Tape.told(x, "fine 9");
            Due.due("back", x.back(), 4);
        }
        OneDraught y = Twin.furnished();
        y.trim(0);
        y.keep();
        Twin.alike("as it was, twice", x, y);
        imageByHand();
        imageAndTheRest();
    }

    private static void imageByHand() {
        OneDraught x = new OneDraught();
        x.door(5, 7, 8, 9);
        x.wind(0);
        x.set(7, 1, 2);
        x.set(7, 2, 3000);
        x.set(7, 3, 1);
        x.run(1);
        Due.due("kept", x.keep(), 1);
        x.turns(0, 0);
        x.open(0, 1);
        x.wind(9999);
        x.run(5);
        x.set(7, 1, 0);
        x.set(7, 2, 0);
        x.set(7, 3, 0);
        Due.holds("all is otherwise", x.hall(0) != 9 && x.room(7, 0) != 989 && x.room(7, 2) != 2973 && x.hall(4) == 1);
        x.back();
        int[] room = {989, 2, 2973, 1, 8};
        for (int what = 0; what < 5; what++) {
            Due.due("room 7, " + what, x.room(7, what), room[what]);
        }
        int[] hall = {9, 7989, 2973, 128, 0};
        for (int what = 0; what < 5; what++) {
            Due.due("hall " + what, x.hall(what), hall[what]);
        }
        int[] door = {5, 7, 8, 9, 0, 9, 8, 2};
        for (int what = 0; what < 8; what++) {
            Due.due("door 0, " + what, x.told(0, what), door[what]);
        }
        int[] count = {1, 0, 1, 0, 1, 0, 0, 0, 1};
        for (int what = 0; what < 9; what++) {
            Due.due("count " + what, x.count(what), count[what]);
        }
    }

    private static void imageAndTheRest() {
        OneDraught z = new OneDraught();
        z.keep();
        z.sheet(0, 0, 5);
        z.mark(0, 4, 44);
        z.lay(0, 3, 33);
        z.tell(22);
        Tape.lay(z, "fine 11");
        z.back();
        Due.due("sheets stay", z.mark(0, 4, 44), 1);
        Due.due("slots stay", z.rest(0, 100), 33);
        Due.due("numbers wait on", z.count(6), 1);
        Due.due("the tape stays", z.text(), 0);
        Due.due("as it was", z.fine(), 11);
        z.back();
        Due.due("a text that was told behind it goes", z.count(5), 0);
        Due.due("it gives nothing", z.fine(), 0);
        OneDraught early = new OneDraught();
        early.lay(0, 3, 1);
        early.sheet(0, 0, 1);
        early.tell(1);
        early.feed(1, 1, 1);
        early.keep();
        early.lay(0, 0, 0);
        early.sheet(0, -1, 0);
        early.check(1);
        early.trim(0);
        early.back();
        Due.due("what a slot held does not come back", early.rest(0, 1), OneDraught.NOTHING);
        Due.due("nor a sheet", early.reads(0), OneDraught.NOTHING);
        Due.due("nor numbers", early.count(6), 0);
        Due.due("nor bytes", early.count(7), 0);
    }

    private static void keep() {
        Due.says("AN IMAGE is kept: how many DOORS.");
        OneDraught x = new OneDraught();
        Due.due("without doors", x.keep(), 0);
        for (int i = 1; i <= 10; i++) {
            x.door(0, 0, 1, 1);
            Due.due("with " + i, x.keep(), i);
        }
        x.set(0, 0, 5);
        x.keep();
        x.set(0, 0, 6);
        x.back();
        Due.due("the last that was kept", x.room(0, 0), 5);
        OneDraught y = Twin.furnished();
        y.back();
        y.keep();
        OneDraught z = Twin.furnished();
        z.back();
        Twin.alike("kept as it came back", y, z);
    }

    private static void back() {
        Due.says("All is as THE IMAGE: how many DOORS. NO: there is none.");
        Twin.refused("no image", NO, () -> telling(3), x -> x.back());
        Twin.refused("no image, a new object", NO, OneDraught::new, x -> x.back());
        OneDraught x = new OneDraught();
        x.keep();
        x.deal(10);
        Due.due("to none", x.back(), 0);
        Due.due("none is there", x.count(0), 0);
        x.deal(10);
        x.keep();
        Due.due("to ten", x.back(), 10);
        Due.due("ten are there", x.count(0), 10);
        OneDraught last = keptAt(9999);
        last.back();
        Due.due("the last minute", last.count(2), 9999);
        OneDraught first = new OneDraught();
        first.keep();
        first.run(100);
        first.back();
        Due.due("the first minute", first.count(2), 0);
    }

    private static void count() {
        Due.says("0 how many DOORS, 1 how many of them are OPEN, 2 THE MINUTE, 3 WIND, 4 how many CANDLES are LIT, 5 TEXTS, 6 numbers that wait, 7 bytes of THE TAPE, 8 z. BAD.");
        Twin.range("what", 0, 8, (x, v) -> x.count(v));
        Twin.tells("count", x -> x.count(0));
        int[] first = {0, 0, 0, 1000, 0, 0, 0, 0, 1};
        int[] most = {10, 10, 9999, 9999, 8, 14, 60, 96, Integer.MIN_VALUE};
        OneDraught x = new OneDraught();
        OneDraught full = keptAt(9999);
        full.deal(10);
        full.wind(9999);
        full.seed(Integer.MIN_VALUE);
        for (int i = 0; i < 60; i++) {
            full.tell(i);
        }
        for (int i = 0; i < 14; i++) {
            Tape.told(full, "gust 9");
        }
        for (int i = 0; i < 8; i++) {
            full.set(i, 3, 1);
            full.feed(1, 2, 3);
        }
        for (int what = 0; what < 9; what++) {
            Due.due("at first, " + what, x.count(what), first[what]);
            Due.due("at most, " + what, full.count(what), most[what]);
        }
    }
}
