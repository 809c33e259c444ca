/** Promises 15 to 22: what will be. */
final class ThoughtTest {
    public static void main(String[] args) {
        behind();
        still();
        birth();
        birthByText();
        smells();
        snuffs();
        storm();
        opened();
        fine();
        nothingChanges();
        wrongAsked();
        Due.end();
    }

    private static OneDraught draughty() {
        OneDraught x = new OneDraught();
        x.seed(11);
        x.deal(9);
        x.set(0, 0, 5000);
        x.set(1, 0, 4);
        x.set(1, 1, 9);
        x.set(2, 2, 3333);
        x.wind(7777);
        for (int room = 0; room < 8; room++) {
            x.set(room, 3, 1);
        }
        return x;
    }

    private static void behind() {
        OneDraught x = draughty();
        OneDraught goes = draughty();
        for (int n = 0; n <= 12; n++) {
            for (int room = 0; room < 8; room++) {
                Due.due("air behind " + n, x.behind(room, n, 0), goes.room(room, 0));
                Due.due("scent behind " + n, x.behind(room, n, 1), goes.room(room, 2));
                Due.due("draught behind " + n, x.behind(room, n, 2), goes.room(room, 4));
                Due.due("candle behind " + n, x.behind(room, n, 3), goes.room(room, 3));
            }
            goes.run(1);
        }
    }

    private static void still() {
        OneDraught x = new OneDraught();
        Due.due("still without doors", x.still(), 0);
        x.door(0, 0, 1, 9);
        x.set(0, 0, 1060);
        Due.due("still: it is shut", x.still(), 0);
        x.open(0, 1);
        int difference = 60;
        int minutes = 0;
        while (difference * 54 / 1000 != 0) {
            difference -= 2 * (difference * 54 / 1000);
            minutes++;
        }
        Due.due("still behind", x.still(), minutes);
        x.set(0, 0, 1018);
        Due.due("still at once", x.still(), 0);
        x.set(0, 1, 9);
        x.set(0, 0, 9999);
        x.set(1, 1, 9);
        x.set(1, 0, 9999);
        Due.due("still by one fire and another", x.still(), 0);
        x = new OneDraught();
        x.door(0, 0, 1, 9);
        x.open(0, 1);
        // With a fire on one side alone a flow grows to 4 or 5 and never ends ahead of 200
        x.set(0, 0, 9999);
        x.set(1, 0, 9999);
        x.set(0, 1, 9);
        Due.due("still now", x.still(), 0);
        x.run(5);
        Due.due("never by then", x.still(), OneDraught.NONE);
        Due.due("still, edge", stillAt(200), 200);
        Due.due("still, beyond the edge", stillAt(201), OneDraught.NONE);
    }

    /** A flue of one by a room of air a, slowly emptied to a wind of 0, is still when a is below 1000. */
    private static int stillAt(int minutes) {
        OneDraught x = new OneDraught();
        x.wind(0);
        x.door(5, 0, 8, 1);
        x.set(0, 0, 999 + minutes);
        return x.still();
    }

    private static void birth() {
        OneDraught x = new OneDraught();
        x.set(0, 0, 2000);
        x.door(0, 0, 1, 1);
        x.door(0, 0, 2, 2);
        x.door(0, 0, 3, 3);
        x.door(0, 4, 0, 3);
        for (int i = 0; i < 4; i++) {
            x.open(i, 1);
        }
        Due.due("draught", x.room(0, 4), 6 + 12 + 18 + 18);
        Due.due("birth for 54", x.birth(0, 54, 0), 0);
        Due.due("birth for 53: the first of all that do", x.birth(0, 53, 0), 1);
        Due.due("birth for 47", x.birth(0, 47, 0), 2);
        Due.due("birth for 36", x.birth(0, 36, 0), 4);
        Due.due("birth for 35", x.birth(0, 35, 0), 5);
        Due.due("birth for 18: 4 and 8 are fewest", x.birth(0, 18, 0), 12);
        Due.due("birth for 6", x.birth(0, 6, 0), 14);
        Due.due("birth for 5", x.birth(0, 5, 0), 15);
        Due.due("birth elsewhere", x.birth(1, 5, 0), 1);
        x.open(1, 0);
        Due.due("a shut door is not in the set", x.birth(0, 6, 0), 12);
        x.door(5, 0, 8, 9);
        Due.due("a flue can't be shut off", x.birth(0, 8, 0), OneDraught.NONE);
        Due.due("but for 9", x.birth(0, 9, 0), 13);
        OneDraught y = new OneDraught();
        y.door(0, 0, 1, 9);
        y.door(0, 1, 8, 9);
        y.open(0, 1);
        y.open(1, 1);
        y.wind(9000);
        Due.due("birth now: nothing flows in room 0", y.birth(0, 5, 0), 0);
        Due.due("birth behind 1: it will", y.birth(0, 5, 1), 1);
        Due.due("d 23 behind 1", y.birth(0, 23, 1), 0);
        Due.due("d 22 behind 1", y.birth(0, 22, 1), 1);
        OneDraught many = new OneDraught();
        many.set(0, 0, 2000);
        for (int i = 0; i < 10; i++) {
            many.door(0, 0, 1 + i % 7, 1);
            many.open(i, 1);
        }
        Due.due("all of ten", many.birth(0, 0, 0), 1023);
        Due.due("nine of ten", many.birth(0, 6, 0), 511);
        Due.due("five of ten", many.birth(0, 30, 0), 31);
        OneDraught calming = new OneDraught();
        calming.set(0, 0, 2000);
        calming.door(0, 0, 1, 9);
        calming.open(0, 1);
        Due.due("now counts, not only then", calming.birth(0, 53, 5), 1);
        Due.due("all MINUTES count", calming.birth(0, 54, 5), 0);
    }

    private static void birthByText() {
        OneDraught x = new OneDraught();
        x.set(0, 0, 2000);
        x.door(0, 0, 1, 3);
        x.door(0, 0, 1, 3);
        x.open(1, 1);
        Tape.told(x, "lets (!o)*40+o*10");
        Due.due("shutting makes it worse", x.birth(0, 49, 0), OneDraught.NONE);
        Due.due("nothing to shut", x.birth(0, 50, 0), 0);
        x.set(0, 0, 1000);
        x.set(1, 0, 1000);
        x.set(2, 0, 2000);
        x.door(0, 2, 0, 3);
        x.door(0, 2, 1, 3);
        x.open(2, 1);
        x.open(3, 1);
        Tape.told(x, "lets o*50");
        Due.due("room 2", x.birth(2, 50, 0), 4);
    }

    private static void smells() {
        OneDraught x = new OneDraught();
        x.set(0, 0, 3000);
        x.set(1, 0, 2000);
        x.set(5, 2, 9999);
        x.door(0, 0, 1, 9);
        x.door(0, 2, 1, 9);
        x.open(0, 1);
        x.open(1, 1);
        Due.due("itself alone", x.smells(0, 0), 1);
        Due.due("the next", x.smells(0, 1), 3);
        Due.due("the one behind it", x.smells(0, 2), 7);
        Due.due("against the stream", x.smells(2, 1), 4);
        Due.due("no doors", x.smells(7, 60), 128);
        OneDraught turning = new OneDraught();
        turning.set(1, 0, 1010);
        turning.set(1, 1, 9);
        turning.door(0, 0, 1, 9);
        turning.open(0, 1);
        // Air of room 1 falls by 9 in each MINUTE: from 0 to 1 it flows when 19 less are there, behind 4
        Due.due("no flow yet", turning.smells(0, 4), 1);
        Due.due("a flow by then", turning.smells(0, 5), 3);
        OneDraught faint = new OneDraught();
        faint.set(0, 0, 9999);
        faint.set(1, 0, 9980);
        faint.door(0, 0, 1, 9);
        faint.open(0, 1);
        Due.due("a flow of 1 brings a scent of 1", faint.smells(0, 1), 3);
        OneDraught y = new OneDraught();
        y.wind(0);
        y.set(0, 0, 9999);
        y.door(2, 0, 8, 9);
        Tape.told(y, "lets 60");
        y.set(1, 2, 500);
        Due.due("all is lost to outside, and none came there", y.smells(1, 60), 2);
    }

    private static void snuffs() {
        OneDraught x = new OneDraught();
        x.set(0, 0, 2000);
        x.door(0, 0, 1, 4);
        x.door(0, 1, 2, 9);
        for (int room = 0; room < 8; room++) {
            x.set(room, 3, 1);
        }
        Due.due("both ends", x.snuffs(0, 1), 2);
        Due.due("none by itself", x.snuffs(1, 60), 0);
        OneDraught late = new OneDraught();
        late.door(0, 0, 1, 9);
        late.door(0, 1, 2, 9);
        late.open(1, 1);
        late.set(0, 0, 9999);
        late.set(2, 3, 1);
        Due.due("not in the first", late.snuffs(0, 1), 0);
        Due.due("in the second", late.snuffs(0, 2), 1);
        x.open(0, 1);
        Due.due("the same, if it is open", x.snuffs(0, 1), 2);
        x.set(1, 0, 3000);
        x.set(2, 0, 2500);
        x.set(2, 3, 1);
        Due.due("only the third is due to it", x.snuffs(1, 1), 1);
        Tape.told(x, "lets !o*60");
        Due.due("fewer than none", x.snuffs(1, 1), -2);
        Due.due("it is as it was", x.hall(4), 1);
    }

    private static void storm() {
        OneDraught x = new OneDraught();
        x.door(5, 0, 8, 9);
        x.set(0, 3, 1);
        // 9 by 1000 of the difference is above 20 from 2334 on
        Due.due("storm", x.storm(1), 3299);
        x.set(0, 0, 8000);
        Due.due("a stronger wind is calmer", x.storm(1), 9999);
        x.door(5, 1, 8, 9);
        x.set(1, 3, 1);
        x.set(1, 0, 0);
        Due.due("none of them", x.storm(1), OneDraught.NONE);
        x.set(0, 3, 0);
        Due.due("storm by the other room", x.storm(1), 2299);
        x.set(1, 3, 0);
        Due.due("no candle", x.storm(20), 9999);
        x.set(7, 3, 1);
        Due.due("a candle where no wind comes", x.storm(20), 9999);
        OneDraught y = new OneDraught();
        y.door(0, 0, 8, 9);
        y.open(0, 1);
        y.door(0, 1, 0, 9);
        y.open(1, 1);
        y.set(1, 3, 1);
        Due.due("behind 1 nothing comes there", y.storm(1), 9999);
        // behind 2: (wind - 1000) by 54, and that by 54 again, is above 20 from 389 on, thus from 8223
        Due.due("behind 2 it does", y.storm(2), 8199);
        OneDraught low = new OneDraught();
        low.set(0, 0, 0);
        low.door(0, 0, 8, 9);
        low.open(0, 1);
        low.set(0, 3, 1);
        Tape.told(low, "gust 5");
        Due.due("the least of them", low.storm(1), 99);
        Tape.told(low, "gust 4");
        Due.due("below the least", low.storm(1), OneDraught.NONE);
    }

    private static void opened() {
        OneDraught x = new OneDraught();
        x.sheet(0, 0, 10);
        Due.due("no doors", x.opened(0, 0, 1), OneDraught.NONE);
        x.set(0, 0, 2000);
        x.door(0, 0, 1, 5);
        x.door(0, 0, 2, 5);
        x.door(0, 0, 3, 9);
        x.open(2, 1);
        for (int room = 0; room < 8; room++) {
            x.mark(0, room, x.room(room, 0));
        }
        x.mark(0, 8, 30000);
        x.mark(0, 9, 30000);
        Due.due("behind 0 all are alike", x.opened(0, 0, 0), 0);
        Due.due("and do not differ", x.opened(0, 0, 1), 0);
        Due.due("that which is open was shut", x.opened(0, 1, 0), 2);
        Due.due("without a difference", x.opened(0, 1, 1), 0);
        x.mark(0, 0, 2000 - 54 - 30);
        x.mark(0, 2, 1030);
        x.mark(0, 3, 1054);
        Due.due("that which is shut was opened", x.opened(0, 1, 0), 1);
        Due.due("without a difference too", x.opened(0, 1, 1), 0);
        x.mark(0, 2, 1020);
        Due.due("differences", x.opened(0, 1, 1), 10);
        x.sheet(1, 0, 1);
        x.mark(1, 0, 2000);
        Due.due("room 0 alone", x.opened(1, 1, 0), 2);
        Due.due("room 0 alone, differences", x.opened(1, 1, 1), 0);
        x.sheet(1, 1, 3);
        x.mark(1, 0, OneDraught.NONE);
        x.mark(1, 1, 1030);
        x.mark(1, 2, -99999);
        Due.due("no number counts not", x.opened(1, 1, 1), 100999);
        Due.due("by the places there are", x.opened(1, 1, 0), 0);
        x.sheet(2, 1, 0);
        Due.due("an empty sheet", x.opened(2, 40, 1), 0);
        Due.due("an empty sheet, which", x.opened(2, 40, 0), 0);
        Due.due("nothing", x.opened(3, 0, 0), OneDraught.NOTHING);
        Due.due("bad ahead of nothing", x.opened(3, 41, 0), OneDraught.BAD);
        Due.due("nothing ahead of none", new OneDraught().opened(0, 0, 0), OneDraught.NOTHING);
    }

    private static void fine() {
        OneDraught x = new OneDraught();
        x.wind(0);
        x.door(5, 0, 8, 9);
        x.run(2);
        Due.due("without a text", x.fine(), 17);
        Due.due("gone", x.hall(0), 17);
        Tape.told(x, "fine g*100+m");
        Due.due("by a text", x.fine(), 1702);
        x.wind(9999);
        x.run(1);
        Due.due("gone below 0", x.fine(), (17 - 81) * 100 + 3);
    }

    private static void nothingChanges() {
        OneDraught x = draughty();
        x.sheet(0, 0, 8);
        long ahead = state(x);
        for (int i = 0; i < 8; i++) {
            x.behind(i, 50, i % 4);
            x.birth(i, i * 10, 3);
            x.smells(i, 30);
            x.snuffs(i, 30);
        }
        x.still();
        x.storm(20);
        x.opened(0, 20, 0);
        x.fine();
        Due.due("nothing changes", state(x), ahead);
    }

    private static long state(OneDraught x) {
        long sum = 7;
        for (int room = 0; room < 8; room++) {
            for (int what = 0; what < 5; what++) {
                sum = sum * 31 + x.room(room, what);
            }
        }
        for (int what = 0; what < 5; what++) {
            sum = sum * 31 + x.hall(what);
        }
        for (int what = 0; what < 9; what++) {
            sum = sum * 31 + x.count(what);
        }
        return sum;
    }

    private static void wrongAsked() {
        OneDraught x = draughty();
        x.sheet(0, 0, 1);
        int[][] wrong = {
            {x.behind(8, 0, 0), x.behind(-1, 0, 0), x.behind(0, -1, 0), x.behind(0, 101, 0), x.behind(0, 0, 4), x.behind(0, 0, -1)},
            {x.birth(8, 0, 0), x.birth(-1, 0, 0), x.birth(0, -1, 0), x.birth(0, 1000, 0), x.birth(0, 0, 6), x.birth(0, 0, -1)},
            {x.smells(8, 0), x.smells(-1, 0), x.smells(0, 61), x.smells(0, -1)},
            {x.snuffs(9, 1), x.snuffs(-1, 1), x.snuffs(0, 0), x.snuffs(0, 61)},
            {x.storm(0), x.storm(21), x.storm(-1)},
            {x.opened(4, 0, 0), x.opened(-1, 0, 0), x.opened(0, 41, 0), x.opened(0, -1, 0), x.opened(0, 0, 2), x.opened(0, 0, -1)}};
        for (int i = 0; i < wrong.length; i++) {
            for (int k = 0; k < wrong[i].length; k++) {
                Due.due("wrong " + i + ", " + k, wrong[i][k], OneDraught.BAD);
            }
        }
        int[] right = {x.behind(7, 100, 3), x.birth(7, 999, 5), x.smells(7, 60), x.snuffs(8, 60), x.storm(20), x.opened(0, 40, 1)};
        for (int i = 0; i < right.length; i++) {
            Due.holds("the edge of " + i + " is no wrong", right[i] != OneDraught.BAD);
        }
    }
}
