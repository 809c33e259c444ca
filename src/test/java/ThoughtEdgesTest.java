/** Promises 15 to 22 and Terms 3, sentence by sentence: what is too small, too large, empty, full, refused. */
final class ThoughtEdgesTest {
    private static final int BAD = OneDraught.BAD;
    private static final int NONE = OneDraught.NONE;

    public static void main(String[] args) {
        onlyThought();
        beyondTheLastMinute();
        behind();
        still();
        birth();
        birthOfSeveral();
        smells();
        snuffs();
        storm();
        stormIsTheGreatest();
        opened();
        openedDiffers();
        fine();
        Due.end();
    }

    private static void onlyThought() {
        Due.says("(All this is only thought, from now on, without the bound of THE MINUTE: nothing changes.)");
        Twin.tells("behind", x -> x.behind(0, 100, 0));
        Twin.tells("still", x -> x.still());
        Twin.tells("birth", x -> x.birth(0, 3, 5));
        Twin.tells("birth that no set does", x -> x.birth(7, 0, 5));
        Twin.tells("smells", x -> x.smells(0, 60));
        Twin.tells("snuffs", x -> x.snuffs(3, 60));
        Twin.tells("storm", x -> x.storm(20));
        Twin.tells("opened", x -> x.opened(0, 40, 0));
        Twin.tells("opened, differences", x -> x.opened(1, 40, 1));
        Twin.tells("fine", x -> x.fine());
    }

    private static void beyondTheLastMinute() {
        OneDraught x = Twin.atMinute(9999);
        Due.due("the last minute", x.count(2), 9999);
        x.wind(0);
        x.door(5, 0, 8, 1);
        x.set(0, 0, 1003);
        Due.due("behind", x.behind(0, 2, 0), 1001);
        Due.due("still", x.still(), 4);
        x.door(0, 0, 1, 9);
        x.set(0, 0, 9999);
        x.set(0, 3, 1);
        x.set(1, 3, 1);
        Due.due("snuffs", x.snuffs(1, 1), 2);
        Due.due("storm", x.storm(1), 9999);
        x.open(1, 1);
        Due.due("smells", x.smells(0, 1), 3);
        Due.due("storm blows a candle out", x.storm(1), NONE);
        x.sheet(0, 0, 2);
        x.mark(0, 0, 9999 - 9);
        x.mark(0, 1, 1000);
        Due.due("opened", x.opened(0, 1, 0), 1);
        OneDraught y = Twin.atMinute(9999);
        y.door(0, 0, 1, 9);
        y.open(0, 1);
        y.door(0, 1, 8, 9);
        y.open(1, 1);
        y.wind(9000);
        // behind 1 MINUTE 432 times 54 by 1000 flows from room 1 to room 0
        Due.due("birth, behind the end", y.birth(0, 22, 1), 1);
        Due.due("birth, calm enough", y.birth(0, 23, 1), 0);
    }

    private static void behind() {
        Due.says("BEHIND n (0 .. 100) MINUTES of a ROOM: what 0 AIR, 1 SCENT, 2 DRAUGHT, 3 whether its CANDLE is LIT. BAD.");
        Twin.range("room", 0, 7, (x, v) -> x.behind(v, 1, 0));
        Twin.range("n", 0, 100, (x, v) -> x.behind(0, v, 0));
        Twin.range("what", 0, 3, (x, v) -> x.behind(0, 1, v));
        Due.says("BEHIND n MINUTES of a ROOM: AIR; SCENT; DRAUGHT; whether its CANDLE is LIT.");
        OneDraught x = new OneDraught();
        x.set(7, 0, 3000);
        x.set(7, 2, 600);
        x.set(7, 3, 1);
        x.door(4, 7, 0, 9);
        x.open(0, 1);
        int[] now = {3000, 600, 20, 1};
        int[] then = {2980, 596, 19, 1};
        for (int what = 0; what < 4; what++) {
            Due.due("behind 0 it is as it is, " + what, x.behind(7, 0, what), now[what]);
            Due.due("behind 1, " + what, x.behind(7, 1, what), then[what]);
        }
        x.set(7, 0, 3100);
        Due.due("a candle that goes out is lit behind 0", x.behind(7, 0, 3), 1);
        Due.due("and not behind 1", x.behind(7, 1, 3), 0);
        OneDraught burning = new OneDraught();
        burning.set(0, 0, 901);
        burning.set(0, 1, 9);
        Due.due("behind 99", burning.behind(0, 99, 0), 10);
        Due.due("behind 100", burning.behind(0, 100, 0), 1);
    }

    /** A flue of one from a room of so much air to no wind: a flow of 1 until its air is below 1000. */
    private static OneDraught emptied(int minutes) {
        OneDraught x = new OneDraught();
        x.wind(0);
        x.door(5, 0, 8, 1);
        x.set(0, 0, 999 + minutes);
        return x;
    }

    private static void still() {
        Due.says("STILL: behind how many MINUTES (0 .. 200) all FLOWS are 0 first.");
        int[] minutes = {0, 1, 2, 199, 200};
        for (int n : minutes) {
            Due.due("still behind " + n, emptied(n).still(), n);
        }
        Due.due("without doors", new OneDraught().still(), 0);
        OneDraught starts = new OneDraught();
        starts.door(0, 0, 1, 9);
        starts.open(0, 1);
        starts.set(0, 1, 9);
        Due.due("still now, though flows come", starts.still(), 0);
        OneDraught two = emptied(3);
        two.door(5, 1, 8, 1);
        two.set(1, 0, 999 + 7);
        Due.due("all flows, not one alone", two.still(), 7);
        OneDraught ten = new OneDraught();
        ten.wind(0);
        for (int i = 0; i < 10; i++) {
            ten.door(5, i % 8, 8, 1);
        }
        ten.set(0, 0, 999);
        ten.set(1, 0, 999);
        Due.due("ten doors, some of them still at once", ten.still(), 1);
        for (int room = 2; room < 8; room++) {
            ten.set(room, 0, 999);
        }
        Due.due("ten doors, all still", ten.still(), 0);
        OneDraught less = emptied(5);
        less.keep();
        less.door(5, 1, 8, 9);
        less.still();
        less.back();
        less.set(0, 0, 999);
        Due.due("a door that is there no more", less.still(), 0);
        OneDraught back = new OneDraught();
        back.wind(2001);
        back.door(5, 0, 8, 1);
        Due.due("a flow of -1 is a flow", back.still(), 2);
        OneDraught against = new OneDraught();
        against.set(1, 0, 2100);
        against.door(5, 0, 1, 1);
        against.door(5, 1, 0, 1);
        // a difference of 1100, less by 4 in each MINUTE, is below 1000 behind 26
        Due.due("two flows that make 0 together are flows", against.still(), 26);
        Due.says("STILL. NONE: not by then.");
        Due.due("behind 201", emptied(201).still(), NONE);
        OneDraught never = new OneDraught();
        never.door(5, 0, 8, 9);
        never.set(0, 0, 9999);
        never.set(0, 1, 9);
        Due.due("never by then", never.still(), NONE);
    }

    /** Room 0 gives 6 to each of so many rooms. */
    private static OneDraught sixEach(int doors) {
        OneDraught x = new OneDraught();
        x.set(0, 0, 2000);
        for (int i = 0; i < doors; i++) {
            x.door(0, i % 2 == 0 ? 0 : 1 + i % 7, i % 2 == 0 ? 1 + i % 7 : 0, 1);
            x.open(i, 1);
        }
        return x;
    }

    private static void birth() {
        Due.says("BIRTH in a ROOM, for d (0 .. 999), n (0 .. 5), as a set. BAD; NONE: no set does.");
        Twin.range("room", 0, 7, (x, v) -> x.birth(v, 5, 1));
        Twin.range("d", 0, 999, (x, v) -> x.birth(0, v, 1));
        Twin.range("n", 0, 5, (x, v) -> x.birth(0, 5, v));
        Due.due("no doors", new OneDraught().birth(0, 0, 5), 0);
        Due.due("d 0: all ten", sixEach(10).birth(0, 0, 0), 1023);
        Due.due("d 999: none", sixEach(10).birth(0, 999, 5), 0);
        OneDraught flue = new OneDraught();
        flue.set(0, 0, 2000);
        flue.door(5, 0, 1, 9);
        Due.due("a flue lets, shut as well", flue.birth(0, 8, 0), NONE);
        Due.due("as much as it lets", flue.birth(0, 9, 0), 0);
        flue.open(0, 1);
        Due.due("shutting it does not help", flue.birth(0, 8, 0), NONE);
        OneDraught strong = new OneDraught();
        strong.set(0, 0, 6000);
        strong.set(1, 0, 1000);
        for (int i = 0; i < 4; i++) {
            strong.door(0, 0, 1, 1);
        }
        Tape.told(strong, "lets 50");
        Due.due("1000 is above 999, and nothing is open", strong.birth(0, 999, 0), NONE);
        strong.set(0, 0, 5999);
        Due.due("996 is not", strong.birth(0, 999, 0), 0);
        OneDraught grows = new OneDraught();
        grows.door(0, 0, 1, 9);
        grows.open(0, 1);
        grows.set(0, 1, 9);
        // 9 less in each MINUTE: the flow is 0, 0, 0, 1, 1, 2 behind 0 .. 5
        Due.due("behind 2 it is 0", grows.birth(0, 0, 2), 0);
        Due.due("behind 3 it is 1", grows.birth(0, 0, 3), 1);
        Due.due("behind 4 it is 1", grows.birth(0, 1, 4), 0);
        Due.due("behind 5 it is 2", grows.birth(0, 1, 5), 1);
        Due.due("behind 5 it is not above 2", grows.birth(0, 2, 5), 0);
    }

    private static void birthOfSeveral() {
        Due.says("BIRTH in a ROOM, for d, n: the fewest OPEN DOORS to shut now so that its DRAUGHT, as it is asked behind 0 .. n MINUTES, is never above d; of several the set that is least as bits.");
        OneDraught x = sixEach(10);
        for (int shut = 0; shut <= 10; shut++) {
            int due = (1 << shut) - 1;
            Due.due("the least of those that shut " + shut, x.birth(0, 60 - 6 * shut, 0), due);
            if (shut < 10) {
                Due.due("one below it shuts one more", x.birth(0, 59 - 6 * shut, 0), due * 2 + 1);
            }
        }
        OneDraught wide = new OneDraught();
        wide.set(0, 0, 2000);
        int[] widths = {1, 1, 1, 2};
        for (int i = 0; i < 4; i++) {
            wide.door(0, 0, 1 + i, widths[i]);
            wide.open(i, 1);
        }
        Due.due("one that is far in the row, not two ahead of it", wide.birth(0, 18, 0), 8);
        Due.due("one alone, and the least", wide.birth(0, 24, 0), 1);
        wide.open(0, 0);
        Due.due("one that is shut already is not told", wide.birth(0, 18, 0), 2);
        OneDraught calms = new OneDraught();
        calms.set(0, 0, 2000);
        calms.door(0, 0, 1, 9);
        calms.open(0, 1);
        Due.due("behind 0 counts", calms.birth(0, 53, 5), 1);
        Due.due("54 is not above 54", calms.birth(0, 54, 5), 0);
    }

    private static void smells() {
        Due.says("SMELLS from a ROOM in n (0 .. 60), as a set. BAD.");
        Twin.range("room", 0, 7, (x, v) -> x.smells(v, 1));
        Twin.range("n", 0, 60, (x, v) -> x.smells(0, v));
        for (int room = 0; room < 8; room++) {
            Due.due("without doors, " + room, new OneDraught().smells(room, 60), 1 << room);
        }
        Due.says("SMELLS from a ROOM in n: all ROOMS that have SCENT behind n MINUTES, if there were 9999 in that one and none elsewhere now.");
        OneDraught row = new OneDraught();
        row.set(0, 0, 9999);
        row.set(1, 0, 5000);
        row.set(2, 0, 0);
        for (int i = 0; i < 2; i++) {
            row.set(i, 2, 50);
            row.door(0, i, i + 1, 9);
            row.open(i, 1);
        }
        Due.due("behind 0 that room alone", row.smells(0, 0), 1);
        Due.due("behind 1 the next", row.smells(0, 1), 3);
        Due.due("behind 2 the one behind it", row.smells(0, 2), 7);
        Due.due("none against the stream", row.smells(2, 1), 4);
        OneDraught faint = new OneDraught();
        faint.set(0, 0, 9999);
        faint.set(1, 0, 8999);
        faint.door(5, 0, 1, 1);
        Due.due("9999 by 9999 brings 1", faint.smells(0, 1), 3);
        OneDraught late = new OneDraught();
        late.set(0, 1, 9);
        late.set(0, 0, 1532);
        late.set(1, 0, 2000);
        late.door(5, 1, 0, 1);
        // 9 less in each MINUTE: from 1532 down to 1001 in 59 of them, and at 992 a flow of 1 goes
        Due.due("behind 60 none yet", late.smells(1, 60), 2);
        late.set(0, 0, 1531);
        Due.due("at 1000, behind 59, one goes", late.smells(1, 60), 3);
        Due.due("not behind 59", late.smells(1, 59), 2);
        OneDraught lost = new OneDraught();
        lost.wind(0);
        lost.door(5, 0, 8, 9);
        lost.set(1, 2, 9999);
        Due.due("none outside, none that was elsewhere", lost.smells(0, 60), 1);
    }

    private static void snuffs() {
        Due.says("SNUFFS of a DOOR in n (1 .. 60). BAD.");
        Twin.range("door", 0, 3, (x, v) -> x.snuffs(v, 1));
        Twin.range("n", 1, 60, (x, v) -> x.snuffs(0, v));
        Due.due("no doors", new OneDraught().snuffs(0, 1), BAD);
        Due.says("SNUFFS of a DOOR in n: how many CANDLES fewer are LIT behind n MINUTES, if it were OPEN, than if it were shut now.");
        OneDraught x = new OneDraught();
        x.set(0, 0, 2000);
        x.door(0, 0, 1, 4);
        Due.due("no candle", x.snuffs(0, 60), 0);
        x.set(0, 3, 1);
        x.set(1, 3, 1);
        x.set(2, 3, 1);
        Due.due("both ends", x.snuffs(0, 1), 2);
        x.open(0, 1);
        Due.due("both ends, if it is open now", x.snuffs(0, 1), 2);
        x.set(0, 0, 1834);
        Due.due("20 blows none out", x.snuffs(0, 1), 0);
        x.set(0, 0, 2000);
        Tape.told(x, "lets !o*60");
        Due.due("fewer than none", x.snuffs(0, 60), -2);
        OneDraught late = new OneDraught();
        late.set(0, 0, 5000);
        late.set(1, 0, 5000);
        late.set(0, 1, 9);
        late.set(0, 3, 1);
        late.door(0, 0, 1, 9);
        Tape.told(late, "gust 3");
        int least = 1;
        for (int air = 5000, other = 5000, n = 1; n <= 60; n++) {
            int flow = (other - air) * 54 / 1000;
            if (flow > 3) {
                least = n;
                break;
            }
            air += flow - 9;
            other -= flow;
        }
        Due.holds("it goes out behind some minutes", least > 2 && least < 60);
        Due.due("not by then", late.snuffs(0, least - 1), 0);
        Due.due("by then", late.snuffs(0, least), 1);
    }

    /** A candle in a room of so much air, with a flue of 9 to outside. */
    private static OneDraught windy(int air) {
        OneDraught x = new OneDraught();
        x.set(0, 0, air);
        x.set(0, 3, 1);
        x.door(5, 0, 8, 9);
        return x;
    }

    private static void storm() {
        Due.says("STORM for n (1 .. 20). BAD; NONE: none of them.");
        Twin.range("n", 1, 20, (x, v) -> x.storm(v));
        Due.due("no candle", new OneDraught().storm(20), 9999);
        OneDraught both = windy(9999);
        both.set(1, 0, 0);
        both.set(1, 3, 1);
        both.door(5, 1, 8, 9);
        Due.due("what is calm for one is none for the other", both.storm(1), NONE);
        OneDraught low = windy(0);
        Tape.told(low, "gust 0");
        Due.due("99 lets nothing flow", low.storm(20), 99);
        low.turns(0, 0);
        low.open(0, 1);
        Tape.told(low, "lets 60");
        Due.due("99 times 60 is above 0", low.storm(1), NONE);
        OneDraught slow = new OneDraught();
        slow.door(0, 0, 1, 9);
        slow.open(0, 1);
        slow.set(0, 1, 9);
        slow.set(1, 3, 1);
        Tape.told(slow, "gust 3");
        int air = 1000;
        int other = 1000;
        int stays = 0;
        while ((other - air) * 54 / 1000 <= 3) {
            int flow = (other - air) * 54 / 1000;
            air += flow - 9;
            other -= flow;
            stays++;
        }
        Due.holds("some minutes are calm", stays > 2 && stays < 20);
        Due.due("calm behind so many", slow.storm(stays), 9999);
        Due.due("not behind one more", slow.storm(stays + 1), NONE);
    }

    private static void stormIsTheGreatest() {
        Due.says("STORM for n: the greatest WIND 0 .. 9999, by hundreds and 99 (99, 199, ..), with which all CANDLES that are LIT now are so behind n MINUTES.");
        // 9 by 1000 of a difference is above 20 from 2334 on
        Due.due("2299 and no more", windy(0).storm(1), 2299);
        Due.due("a difference of 2333 is none too much", windy(66).storm(1), 2399);
        Due.due("one of 2334 is", windy(65).storm(1), 2299);
        Due.due("the greatest of all", windy(7666).storm(1), 9999);
        Due.due("9999 is too much by one", windy(7665).storm(1), 9899);
        Due.due("though lesser winds are too little", windy(9999).storm(1), 9999);
        OneDraught out = windy(0);
        out.set(0, 3, 0);
        out.set(1, 3, 1);
        Due.due("candles that are not lit now do not count", out.storm(20), 9999);
        Due.due("the wind as it is does not count", stormIn(9999), 2299);
        Due.due("nor a calm one", stormIn(0), 2299);
    }

    private static int stormIn(int wind) {
        OneDraught x = windy(0);
        x.wind(wind);
        return x.storm(1);
    }

    private static OneDraught noDoors() {
        OneDraught x = new OneDraught();
        x.sheet(0, 0, 2);
        return x;
    }

    private static void opened() {
        Due.says("OPENED by a SHEET, for n (0 .. 40): what 0 the DOOR, 1 the differences, together. BAD; NOTHING; NONE: there are no DOORS.");
        Twin.range("sheet", 0, 3, (x, v) -> x.opened(v, 1, 0));
        Twin.range("n", 0, 40, (x, v) -> x.opened(0, v, 0));
        Twin.range("what", 0, 1, (x, v) -> x.opened(0, 1, v));
        Twin.refused("a missing sheet", OneDraught.NOTHING, x -> x.opened(3, 0, 0));
        Twin.bad("a missing sheet, n", x -> x.opened(3, 41, 0));
        Twin.bad("a missing sheet, what", x -> x.opened(3, 0, 2));
        Twin.refused("no doors", NONE, ThoughtEdgesTest::noDoors, x -> x.opened(0, 40, 0));
        Twin.refused("no doors, differences", NONE, ThoughtEdgesTest::noDoors, x -> x.opened(0, 40, 1));
        Twin.refused("no doors, a missing sheet", OneDraught.NOTHING, ThoughtEdgesTest::noDoors, x -> x.opened(1, 0, 0));
        Twin.refused("no doors, n", BAD, ThoughtEdgesTest::noDoors, x -> x.opened(0, -1, 0));
    }

    private static void openedDiffers() {
        Due.says("OPENED by a SHEET, for n: the DOOR with which, if it were the other way (OPEN or shut) now, AIR of ROOMS k behind n MINUTES and places k that are numbers differ least (signs left out; places beyond all ROOMS do not count), together; of several the least.");
        OneDraught x = new OneDraught();
        x.set(0, 0, 2000);
        for (int i = 0; i < 10; i++) {
            x.door(0, 0, 1 + i % 7, 1);
        }
        x.sheet(0, 1, 24);
        for (int room = 0; room < 8; room++) {
            x.mark(0, room, x.room(room, 0));
        }
        for (int place = 8; place < 24; place++) {
            x.mark(0, place, 99999);
        }
        Due.due("behind 0 all are alike: the least", x.opened(0, 0, 0), 0);
        Due.due("and none differs", x.opened(0, 0, 1), 0);
        x.mark(0, 0, 1994);
        x.mark(0, 3, 1006);
        Due.due("two that are alike: the least of them", x.opened(0, 1, 0), 2);
        Due.due("they do not differ", x.opened(0, 1, 1), 0);
        x.open(2, 1);
        Due.due("if that one were shut", x.opened(0, 1, 0), 0);
        x.open(2, 0);
        x.mark(0, 0, -99999);
        x.mark(0, 3, 99999);
        Due.due("signs left out", x.opened(0, 1, 1), 99999 + 1994 + 99999 - 1006);
        for (int room = 0; room < 8; room++) {
            x.mark(0, room, OneDraught.NONE);
        }
        Due.due("no number is there: the least", x.opened(0, 40, 0), 0);
        Due.due("nothing differs", x.opened(0, 40, 1), 0);
        x.mark(0, 7, 1006);
        Due.due("the last room", x.opened(0, 1, 0), 6);
        x.sheet(1, 0, 0);
        Due.due("a sheet without places: the least", x.opened(1, 40, 0), 0);
        Due.due("nothing differs there", x.opened(1, 40, 1), 0);
        x.sheet(1, 0, 1);
        Due.due("one place alone", x.opened(1, 0, 1), 2000);
        Due.due("behind 1 it is 6 less", x.opened(1, 1, 1), 1994);
        int air = 2000;
        int other = 1000;
        for (int n = 0; n < 40; n++) {
            int flow = (air - other) * 6 / 1000;
            air -= flow;
            other += flow;
        }
        Due.due("behind 40", x.opened(1, 40, 1), air);
    }

    private static void fine() {
        Due.says("What fine gives.");
        OneDraught x = new OneDraught();
        Due.due("without a text", x.fine(), 0);
        x.wind(0);
        x.door(5, 0, 8, 9);
        x.run(1);
        Due.due("without a text it is gone", x.fine(), 9);
        Tape.told(x, "gust 5");
        Tape.told(x, "lets 5");
        Due.due("texts of other keys do not count", x.fine(), 9);
        Tape.told(x, "fine 0-9999*9999*9999");
        Due.due("held within nothing", x.fine(), -(9999 * 9999 * 9999));
        OneDraught last = Twin.atMinute(9999);
        Tape.told(last, "fine m");
        Due.due("the last minute", last.fine(), 9999);
    }
}
