/** Terms 1, 2 and what stands ahead of them, sentence by sentence: where a number is cut, held, lost, or goes round. */
final class TermsEdgesTest {
    private static final int BAD = OneDraught.BAD;
    private static final int NONE = OneDraught.NONE;

    public static void main(String[] args) {
        cut();
        refused();
        refusedButUsedUp();
        none();
        sets();
        rooms();
        outside();
        doors();
        goneAndMinute();
        lets();
        letsOfKinds();
        worth();
        flow();
        draught();
        allByWhatWasAhead();
        scent();
        air();
        candle();
        footman();
        draws();
        drawnDoors();
        Due.end();
    }

    private static OneDraught oneDoor(int kind, int to, int wide, int open) {
        OneDraught x = new OneDraught();
        x.door(kind, 0, to, wide);
        x.open(0, open);
        return x;
    }

    private static void cut() {
        Due.says("All numbers are whole; / cuts towards 0.");
        OneDraught x = oneDoor(0, 1, 9, 1);
        x.set(0, 0, 1018);
        Due.due("972 by 1000", x.told(0, 6), 0);
        x.set(0, 0, 982);
        Due.due("-972 by 1000", x.told(0, 6), 0);
        x.set(0, 0, 963);
        Due.due("-1998 by 1000", x.told(0, 6), -1);
        Tape.told(x, "fine (0-7)/2");
        Due.due("-7 by 2", x.fine(), -3);
        Tape.told(x, "fine 7/(0-2)");
        Due.due("7 by -2", x.fine(), -3);
        Tape.told(x, "fine (0-7)/(0-2)");
        Due.due("-7 by -2", x.fine(), 3);
        Tape.told(x, "fine 1/2");
        Due.due("1 by 2", x.fine(), 0);
    }

    private static OneDraught full() {
        OneDraught x = new OneDraught();
        x.deal(10);
        for (int i = 0; i < 14; i++) {
            Tape.told(x, "fine m");
        }
        Tape.lay(x, "fine m+9");
        return x;
    }

    private static void refused() {
        Due.says("A call that is refused answers one of BAD, NO, FULL, or a FINDING, of several the one that stands first with it, and changes nothing (but the tape and the numbers that wait, where told).");
        Twin.refused("door: BAD, FULL", BAD, TermsEdgesTest::full, x -> x.door(0, 0, 0, 1));
        Twin.bad("as: BAD, KIND", x -> x.as(9, 3));
        Twin.bad("opened: BAD, NOTHING", x -> x.opened(3, -1, 0));
        Twin.bad("sheet: BAD, SIZE", x -> x.sheet(0, 2, -1));
        Twin.refused("mark: NOTHING, INDEX", OneDraught.NOTHING, x -> x.mark(3, 99, NONE));
        Twin.refused("mark: INDEX, KIND", OneDraught.INDEX, x -> x.mark(0, 3, NONE));
        Twin.refused("mark: INDEX, BAD", OneDraught.INDEX, x -> x.mark(1, 4, 100000));
        Twin.bad("copy: BAD, NOTHING", x -> x.copy(3, 0, 4, 0, 1));
        Twin.refused("copy: NOTHING, KIND", OneDraught.NOTHING, x -> x.copy(1, 0, 3, 0, 1));
        Twin.refused("copy: NOTHING, INDEX", OneDraught.NOTHING, x -> x.copy(3, 99, 0, 0, 1));
        Twin.refused("copy: KIND, INDEX", OneDraught.KIND, x -> x.copy(0, 99, 1, 99, -1));
        Twin.bad("lay: BAD, NOTHING", x -> x.lay(5, 2, 3));
        Twin.bad("ask: BAD, NOTHING", x -> x.ask(0, 6));
        Twin.bad("ask: BAD, KIND", x -> x.ask(2, 6));
        Twin.refused("item: NOTHING, INDEX", OneDraught.NOTHING, x -> x.item(0, -1));
        Twin.refused("item: KIND, INDEX", OneDraught.KIND, x -> x.item(3, -1));
        Twin.refused("rest: NOTHING, NO", OneDraught.NOTHING, x -> x.rest(0, 0));
        Twin.refused("rest: KIND, NO", OneDraught.KIND, x -> x.rest(1, 0));
    }

    private static OneDraught untold() {
        OneDraught x = Twin.furnished();
        x.check(2);
        return x;
    }

    private static OneDraught untaped() {
        OneDraught x = Twin.furnished();
        x.trim(0);
        return x;
    }

    private static void refusedButUsedUp() {
        Twin.refused("text: a FAULT, FULL", -104, () -> {
            OneDraught x = full();
            x.trim(4);
            return x;
        }, x -> x.text(), () -> {
            OneDraught x = full();
            x.trim(0);
            return x;
        });
        Twin.refused("text with a fault", -105, () -> {
            OneDraught x = Twin.furnished();
            x.trim(5);
            return x;
        }, x -> x.text(), TermsEdgesTest::untaped);
        Twin.refused("check: BAD", BAD, Twin::furnished, x -> x.check(31), TermsEdgesTest::untold);
        OneDraught x = new OneDraught();
        x.tell(1);
        Due.due("check: BAD, NO", x.check(0), BAD);
        Due.due("none waits", x.count(6), 0);
    }

    private static void none() {
        Due.says("NONE: there is none.");
        OneDraught x = new OneDraught();
        x.sheet(0, 0, 0);
        for (int key = 0; key < 3; key++) {
            Due.due("why", x.why(key), NONE);
        }
        Due.due("reads", x.reads(0), NONE);
        Due.due("opened", x.opened(0, 0, 0), NONE);
        Due.due("its number", NONE, -1000000005);
    }

    private static void sets() {
        Due.says("Sets of ROOMS, of DOORS are told by bits.");
        OneDraught x = new OneDraught();
        for (int i = 0; i < 10; i++) {
            x.door(0, 0, 1, 1);
        }
        for (int i = 0; i < 10; i++) {
            x.open(i, 1);
            Due.due("door " + i + " alone", x.hall(4), 1 << i);
            x.open(i, 0);
        }
        for (int room = 0; room < 8; room++) {
            x.set(room, 3, 1);
            Due.due("candle " + room + " alone", x.hall(3), 1 << room);
            Due.due("smells " + room + " alone", x.smells(room, 0), 1 << room);
            x.set(room, 3, 0);
        }
    }

    private static void rooms() {
        Due.says("ROOMS are 0 .. 7, each with AIR (1000 at first), FIRE 0 .. 9 (0), SCENT (0), a CANDLE that is LIT or not (not, at first).");
        OneDraught x = new OneDraught();
        int[] first = {1000, 0, 0, 0, 0};
        for (int what = 0; what < 5; what++) {
            for (int room = 0; room < 8; room++) {
                Due.due("room " + room + ", " + what, x.room(room, what), first[what]);
            }
            Due.due("no room 8, " + what, x.room(8, what), BAD);
            Due.due("no room -1, " + what, x.room(-1, what), BAD);
        }
        Due.due("fire 9", x.set(7, 1, 9), 0);
        Due.due("fire 10", x.set(7, 1, 10), BAD);
        Due.due("fire -1", x.set(7, 1, -1), BAD);
        Due.due("fire stays", x.room(7, 1), 9);
    }

    private static void outside() {
        Due.says("OUTSIDE is told by 8: its AIR is WIND, 0 .. 9999 (1000 at first), whatever goes.");
        OneDraught x = oneDoor(0, 8, 9, 1);
        Due.due("at first", x.count(3), 1000);
        Due.due("told by 8", x.told(0, 2), 8);
        Due.due("no flow at first", x.told(0, 6), 0);
        int[] winds = {0, 9999};
        for (int wind : winds) {
            x.wind(wind);
            x.set(0, 0, 9999 - wind);
            Due.due("wind " + wind + " flows", x.told(0, 6), (9999 - 2 * wind) * 54 / 1000);
            x.run(100);
            Due.due("wind " + wind + " is what it was", x.count(3), wind);
            Due.due("it is no room's air", x.hall(1), 7000 + x.room(0, 0));
        }
        Due.due("wind 10000", x.wind(10000), BAD);
        Due.due("wind -1", x.wind(-1), BAD);
    }

    private static void doors() {
        Due.says("DOORS, 10 at most, numbered from 0: between a ROOM and another one or OUTSIDE, WIDE 1 .. 9, OPEN or shut, and of KINDS: 0 DOOR; 1 HEAVY, 2 LATTICE, 5 FLUE, under DOOR; 3 VAULT, under HEAVY; 4 SCREEN, under LATTICE (all are DOORS).");
        OneDraught x = new OneDraught();
        for (int i = 0; i < 10; i++) {
            Due.due("numbered from 0", x.door(i % 6, i % 8, 8, 1 + i % 9), i);
        }
        Due.due("10 at most", x.door(0, 0, 1, 1), OneDraught.FULL);
        int[][] under = {{1, 0}, {2, 0}, {5, 0}, {3, 1}, {4, 2}, {3, 0}, {4, 0}};
        for (int[] u : under) {
            Due.due(u[0] + " is under " + u[1], x.as(u[0], u[1]), 1 + u[0]);
            Due.due(u[1] + " is not under " + u[0], x.as(u[1], u[0]), OneDraught.KIND);
        }
        int[][] beside = {{1, 2}, {2, 1}, {3, 2}, {4, 1}, {3, 4}, {4, 3}, {5, 1}, {5, 2}, {5, 3}, {5, 4}, {1, 5}, {2, 5}, {3, 5}, {4, 5}};
        for (int[] b : beside) {
            Due.due(b[0] + " is not under " + b[1], x.as(b[0], b[1]), OneDraught.KIND);
        }
    }

    private static void goneAndMinute() {
        Due.says("GONE (AIR that went OUTSIDE, less what came in; 0 at first).");
        OneDraught x = oneDoor(5, 8, 9, 0);
        Due.due("at first", x.hall(0), 0);
        x.wind(0);
        x.run(1);
        Due.due("9 went", x.hall(0), 9);
        x.wind(9999);
        x.run(1);
        Due.due("81 came in", x.hall(0), 9 - 81);
        x.set(1, 1, 9);
        x.open(0, 1);
        x.wind(x.room(0, 0));
        x.run(1);
        Due.due("what a fire takes did not go", x.hall(0), 9 - 81);
        Due.says("(GONE: what flowed to OUTSIDE, less what came from it.)");
        OneDraught through = new OneDraught();
        through.wind(5000);
        through.set(0, 0, 9000);
        through.door(5, 0, 8, 9);
        through.door(5, 1, 8, 5);
        through.door(5, 0, 1, 9);
        through.run(1);
        Due.due("in one MINUTE both ways, none for those within", through.hall(0), 36 - 20);
        Due.says("THE MINUTE is 0 at first, 9999 at most.");
        OneDraught y = new OneDraught();
        Due.due("at first", y.count(2), 0);
        for (int i = 0; i < 99; i++) {
            y.run(100);
        }
        y.run(99);
        Due.due("9999", y.count(2), 9999);
        y.run(1);
        Due.due("at most", y.count(2), 9999);
        Due.says("THE MINUTE is 1 more.");
        OneDraught z = new OneDraught();
        z.run(1);
        Due.due("behind one", z.count(2), 1);
        z.run(7);
        Due.due("behind eight", z.count(2), 8);
    }

    private static void letsBy(String text, int kind, int wide, int shut, int open) {
        OneDraught x = oneDoor(kind, 1, wide, 0);
        if (!text.isEmpty()) {
            Tape.told(x, text);
        }
        Due.due("'" + text + "', kind " + kind + ", wide " + wide + ", shut", x.told(0, 5), shut);
        x.open(0, 1);
        Due.due("'" + text + "', kind " + kind + ", wide " + wide + ", open", x.told(0, 5), open);
    }

    private static void lets() {
        Due.says("LETS: DOOR: what lets gives, held within 0 .. 60 (without a TEXT: 6 times WIDE, if it is OPEN, else 0).");
        letsBy("", 0, 1, 0, 6);
        letsBy("", 0, 9, 0, 54);
        letsBy("lets 59+o", 0, 1, 59, 60);
        letsBy("lets 60+o", 0, 1, 60, 60);
        letsBy("lets 9999", 0, 1, 60, 60);
        letsBy("lets o-1", 0, 1, 0, 0);
        letsBy("lets 0-9999", 0, 1, 0, 0);
        letsBy("lets o", 0, 1, 0, 1);
        letsBy("lets 2048*1024*1024", 0, 1, 0, 0);
        letsBy("lets 2048*1024*1024-1", 0, 1, 60, 60);
        letsBy("lets w", 0, 9, 9, 9);
    }

    private static void letsOfKinds() {
        Due.says("HEAVY: half (cut) of as DOOR.");
        letsBy("", 1, 1, 0, 3);
        letsBy("", 1, 9, 0, 27);
        letsBy("lets o", 1, 1, 0, 0);
        letsBy("lets 1+o", 1, 1, 0, 1);
        letsBy("lets 59+o", 1, 1, 29, 30);
        letsBy("lets 121", 1, 1, 30, 30);
        letsBy("lets 0-9", 1, 1, 0, 0);
        Due.says("VAULT: as HEAVY, if it is OPEN, else 0.");
        letsBy("", 3, 9, 0, 27);
        letsBy("lets 7", 3, 1, 0, 3);
        letsBy("lets 121", 3, 1, 0, 30);
        letsBy("lets !o*60", 3, 1, 0, 0);
        Due.says("LATTICE: as DOOR, and 3.");
        letsBy("", 2, 1, 3, 9);
        letsBy("", 2, 9, 3, 57);
        letsBy("lets 99", 2, 1, 63, 63);
        letsBy("lets 0-9", 2, 1, 3, 3);
        Due.says("SCREEN: as LATTICE, 10 at most.");
        letsBy("", 4, 1, 3, 9);
        letsBy("", 4, 2, 3, 10);
        letsBy("lets 6+o", 4, 1, 9, 10);
        letsBy("lets 7+o", 4, 1, 10, 10);
        letsBy("lets 99", 4, 1, 10, 10);
        letsBy("lets 0-9", 4, 1, 3, 3);
        Due.says("FLUE: WIDE.");
        letsBy("", 5, 1, 1, 1);
        letsBy("", 5, 9, 9, 9);
        letsBy("lets 60", 5, 9, 9, 9);
        letsBy("lets 0", 5, 1, 1, 1);
    }

    private static void worth() {
        Due.says("WORTH: DOOR: WIDE. HEAVY: as DOOR, and 20. VAULT: twice as HEAVY. LATTICE: 30 less WIDE. SCREEN: as LATTICE, less 5. FLUE: 2.");
        int[] narrow = {1, 21, 29, 42, 24, 2};
        int[] wide = {9, 29, 21, 58, 16, 2};
        for (int kind = 0; kind < 6; kind++) {
            Due.due("narrow " + kind, oneDoor(kind, 1, 1, 0).told(0, 7), narrow[kind]);
            Due.due("wide " + kind, oneDoor(kind, 1, 9, 1).told(0, 7), wide[kind]);
        }
        Due.says("(A KIND that is not named does as the one above it.)");
        for (int kind = 0; kind < 6; kind++) {
            Due.due("each as a DOOR is as wide as it is", oneDoor(kind, 1, 7, 0).as(0, 0), 7);
        }
    }

    private static void flow() {
        Due.says("FLOW through a DOOR, from its first to its second: AIR of the first less that of the second, times LETS, by 1000 (cut).");
        OneDraught x = oneDoor(2, 8, 9, 1);
        Tape.told(x, "lets 60");
        x.set(0, 0, 9999);
        x.wind(0);
        Due.due("the most", x.told(0, 6), 629);
        x.set(0, 0, 0);
        x.wind(9999);
        Due.due("the least", x.told(0, 6), -629);
        x.set(0, 0, 9999);
        Due.due("none", x.told(0, 6), 0);
        OneDraught y = oneDoor(5, 1, 1, 0);
        y.set(0, 0, 1999);
        Due.due("999 by 1000", y.told(0, 6), 0);
        y.set(0, 0, 2000);
        Due.due("1000 by 1000", y.told(0, 6), 1);
        y.set(0, 0, 1);
        Due.due("-999 by 1000", y.told(0, 6), 0);
        y.set(0, 0, 0);
        Due.due("-1000 by 1000", y.told(0, 6), -1);
    }

    private static void draught() {
        Due.says("DRAUGHT of a ROOM: FLOWS of all its DOORS, signs left out, together.");
        OneDraught x = new OneDraught();
        Due.due("no doors", x.room(0, 4), 0);
        x.set(1, 0, 4000);
        x.set(2, 0, 1000);
        x.set(0, 0, 2000);
        x.door(5, 0, 1, 9);
        x.door(5, 0, 2, 9);
        x.door(5, 1, 0, 9);
        x.door(5, 2, 8, 9);
        Due.due("in, out, and the other way round", x.room(0, 4), 18 + 9 + 18);
        Due.due("that of the second", x.room(1, 4), 36);
        x.wind(9999);
        Due.due("outside comes too", x.room(2, 4), 9 + 80);
        OneDraught most = new OneDraught();
        most.set(0, 0, 9999);
        most.set(1, 0, 0);
        for (int i = 0; i < 10; i++) {
            most.door(2, i % 2, 1 - i % 2, 9);
        }
        Tape.told(most, "lets 60");
        Due.due("the most", most.room(0, 4), 6290);
        Due.due("the most, at the other end", most.room(1, 4), 6290);
    }

    private static void allByWhatWasAhead() {
        Due.says("A MINUTE (all by what was ahead of each step): (1) FLOWS of all DOORS; DRAUGHTS.");
        OneDraught x = new OneDraught();
        x.set(0, 0, 9999);
        x.set(2, 0, 0);
        x.door(5, 0, 1, 9);
        x.door(5, 1, 2, 9);
        x.set(1, 3, 1);
        x.run(1);
        Due.due("air by flows as they were, out", x.room(0, 0), 9999 - 80);
        Due.due("through", x.room(1, 0), 1000 + 80 - 9);
        Due.due("in", x.room(2, 0), 9);
        Due.due("a candle by the draught as it was", x.room(1, 3), 0);
        OneDraught y = new OneDraught();
        y.set(0, 1, 9);
        y.set(0, 3, 1);
        y.set(0, 0, 1000);
        y.door(0, 0, 8, 9);
        y.open(0, 1);
        Tape.told(y, "gust f-8");
        Due.due("no flow ahead, though a fire makes one", y.run(1), 0);
        Due.due("not behind 1 either", y.run(1), 0);
        OneDraught s = new OneDraught();
        s.set(0, 0, 2000);
        s.set(0, 2, 2000);
        s.set(0, 3, 1);
        s.door(0, 0, 1, 5);
        s.open(0, 1);
        Tape.told(s, "gust (s<2000)*999");
        Due.due("gust by the scent that is left then", s.run(1), 0);
        OneDraught t = new OneDraught();
        t.set(0, 0, 2000);
        t.set(0, 2, 2000);
        t.set(0, 3, 1);
        t.door(0, 0, 1, 5);
        t.open(0, 1);
        Tape.told(t, "gust (s=2000)*999");
        Due.due("not by the scent that was", t.run(1), 1);
    }

    private static void scent() {
        Due.says("(2) Of each FLOW, by numbers of DOORS, from where it comes SCENT goes along: SCENT (as it was ahead of the MINUTE) times the FLOW (without sign) by AIR (as it was ahead of it; 1 at least; cut) of that ROOM, but no more than is there by then; from OUTSIDE none comes; to OUTSIDE it is lost.");
        OneDraught x = new OneDraught();
        x.set(0, 0, 3000);
        x.set(1, 0, 2000);
        x.set(0, 2, 3000);
        x.door(0, 0, 1, 5);
        x.door(0, 1, 2, 5);
        x.open(0, 1);
        x.open(1, 1);
        x.run(1);
        Due.due("what came does not go on in the same", x.room(2, 2), 0);
        Due.due("it is there", x.room(1, 2), 30);
        Due.due("it went from there", x.room(0, 2), 2970);
        OneDraught back = oneDoor(0, 1, 5, 1);
        back.set(1, 0, 2000);
        back.set(1, 2, 2000);
        back.run(1);
        Due.due("against the door it goes too", back.room(0, 2), 30);
        Due.due("and is not here any more", back.room(1, 2), 1970);
        OneDraught least = oneDoor(5, 1, 1, 0);
        least.set(1, 0, 2000);
        least.set(1, 2, 2000);
        least.run(1);
        Due.due("a flow of -1 takes some along", least.room(0, 2), 1);
        OneDraught faint = oneDoor(5, 1, 1, 0);
        faint.set(0, 0, 9999);
        faint.set(1, 0, 8999);
        faint.set(0, 2, 9998);
        faint.run(1);
        Due.due("9998 by 9999 is cut", faint.room(1, 2), 0);
        Due.due("it stays", faint.room(0, 2), 9998);
        OneDraught same = oneDoor(5, 1, 1, 0);
        same.set(0, 0, 9999);
        same.set(1, 0, 8999);
        same.set(0, 2, 9999);
        same.run(1);
        Due.due("9999 by 9999 is 1", same.room(1, 2), 1);
        OneDraught out = oneDoor(5, 8, 9, 0);
        out.wind(0);
        out.set(0, 2, 9999);
        out.run(1);
        Due.due("lost to outside", out.hall(2), 9999 - 89);
        out.wind(9999);
        out.run(1);
        Due.due("none comes from outside", out.hall(2), 9999 - 89);
        scentByManyDoors();
    }

    private static void scentByManyDoors() {
        OneDraught x = new OneDraught();
        x.set(0, 0, 9999);
        x.set(1, 0, 0);
        x.set(0, 2, 9999);
        x.set(1, 2, 5);
        for (int i = 0; i < 10; i++) {
            x.door(2, 0, 1, 9);
        }
        Tape.told(x, "lets 60");
        x.run(1);
        // 629 of 9999 by each of ten: by the scent as it was, not by what is left
        Due.due("ten doors", x.room(0, 2), 9999 - 6290);
        Due.due("all of it came", x.room(1, 2), 5 + 6290);
        Due.due("air goes with it", x.room(0, 0), 9999 - 6290);
        OneDraught none = oneDoor(0, 1, 9, 1);
        none.set(0, 0, 0);
        none.set(0, 2, 9999);
        none.run(1);
        Due.due("a room without air gives none", none.room(0, 2), 9999);
    }

    private static void air() {
        Due.says("(3) AIR of each ROOM is less by what flows out, more by what flows in; then less by its FIRE (0 at least).");
        int[][] rows = {{0, 9, 0}, {5, 9, 0}, {9, 9, 0}, {10, 9, 1}, {0, 0, 0}, {9999, 9, 9990}};
        for (int[] row : rows) {
            OneDraught x = new OneDraught();
            x.set(0, 0, row[0]);
            x.set(0, 1, row[1]);
            x.run(1);
            Due.due("air " + row[0] + ", fire " + row[1], x.room(0, 0), row[2]);
        }
        OneDraught x = oneDoor(5, 1, 9, 0);
        x.set(0, 0, 0);
        x.set(0, 1, 9);
        x.run(1);
        Due.due("9 come in, then 9 are burnt", x.room(0, 0), 0);
        x.set(1, 0, 1112);
        x.run(1);
        Due.due("10 come in, then 9 are burnt", x.room(0, 0), 1);
        OneDraught few = oneDoor(5, 1, 9, 0);
        few.set(0, 0, 3);
        few.set(1, 0, 500);
        few.set(0, 1, 9);
        few.run(1);
        Due.due("4 come in to 3: fewer than are burnt", few.room(0, 0), 0);
        Due.due("what came is gone from there", few.room(1, 0), 496);
        Due.due("none comes back", few.hall(0), 0);
    }

    /** Four doors that let 50 each, to a room without air: a draught of 4 for each 20 of air. */
    private static int candleAt(int air, String text) {
        OneDraught x = new OneDraught();
        x.set(0, 0, air);
        x.set(0, 3, 1);
        x.set(1, 0, 0);
        for (int i = 0; i < 4; i++) {
            x.door(0, i % 2, 1 - i % 2, 1);
            x.open(i, 1);
        }
        Tape.told(x, "lets 50");
        if (!text.isEmpty()) {
            Tape.told(x, text);
        }
        x.run(1);
        return x.room(0, 3);
    }

    /** Two doors that let 59 and 52 of 9000: a draught of 531 and 468. */
    private static int candleAtMost() {
        OneDraught x = new OneDraught();
        x.set(0, 0, 9000);
        x.set(1, 0, 0);
        x.set(0, 3, 1);
        x.door(0, 0, 1, 9);
        x.door(0, 1, 0, 2);
        Tape.told(x, "lets 50+w");
        Tape.told(x, "gust 9999");
        Due.due("a draught of 999", x.room(0, 4), 999);
        x.run(1);
        return x.room(0, 3);
    }

    private static void candle() {
        Due.says("(4) The CANDLE of each ROOM whose DRAUGHT is above what gust gives, held within 0 .. 999 (without a TEXT: 20), is not LIT any more.");
        Due.due("20 without a text", candleAt(100, ""), 1);
        Due.due("24 without a text", candleAt(120, ""), 0);
        Due.due("24 by 24", candleAt(120, "gust 24"), 1);
        Due.due("24 by 23", candleAt(120, "gust 23"), 0);
        Due.due("0 by 0", candleAt(19, "gust 0"), 1);
        Due.due("0 by less", candleAt(19, "gust 0-9999"), 1);
        Due.due("4 by 0", candleAt(20, "gust 0"), 0);
        Due.due("996 by 999", candleAt(4999, "gust 999"), 1);
        Due.due("1000 by 999", candleAt(5000, "gust 999"), 0);
        Due.due("1000 by 1000", candleAt(5000, "gust 1000"), 0);
        Due.due("1000 by 9999", candleAt(5000, "gust 9999"), 0);
        Due.due("996 by 9999", candleAt(4999, "gust 9999"), 1);
        Due.due("4 by the least of ints", candleAt(20, "gust 2048*1024*1024"), 0);
        Due.due("996 by the most of ints", candleAt(4999, "gust 2048*1024*1024-1"), 1);
        Due.due("999 by 9999", candleAtMost(), 1);
        OneDraught x = new OneDraught();
        x.set(0, 0, 9999);
        x.door(0, 0, 1, 9);
        x.open(0, 1);
        x.set(1, 3, 1);
        x.set(2, 3, 1);
        Due.due("one that is not lit does not go out", x.run(1), 1);
        Due.due("where no draught is it stays", x.hall(3), 4);
        x.open(0, 0);
        x.run(1);
        Due.due("none is lit by itself", x.hall(3), 4);
    }

    private static void footman() {
        Due.says("A FOOTMAN goes round: of each DOOR, by numbers: a draw; if its rest by 100 is below n, it is shut.");
        int found = 0;
        for (int seed = 0; seed < 400; seed++) {
            int drawn = seed * 1103515245 + 12345 >>> 8;
            int rest = drawn % 100;
            OneDraught x = oneDoor(0, 1, 1, 1);
            x.seed(seed);
            Due.due("a rest of " + rest + " is not below itself", x.footman(rest), 0);
            x.seed(seed);
            Due.due("it is below one more", x.footman(rest + 1), 1);
            found |= rest == 0 ? 1 : rest == 99 ? 2 : 0;
        }
        Due.due("a rest of 0 and one of 99 were among them", found, 3);
        OneDraught shut = new OneDraught();
        shut.door(0, 0, 1, 1);
        shut.door(0, 0, 1, 1);
        shut.seed(0);
        shut.footman(0);
        Due.due("a draw for each, shut as well", shut.count(8), 12345 * 1103515245 + 12345);
        OneDraught none = new OneDraught();
        none.footman(50);
        Due.due("no doors, no draws", none.count(8), 1);
    }

    private static void draws() {
        Due.says("z is told (1 at first).");
        OneDraught x = new OneDraught();
        Due.due("at first", x.count(8), 1);
        Due.says("A draw: z becomes z * 1103515245 + 12345 (an int); it gives z >>> 8.");
        x.door(0, 0, 1, 1);
        int[] seeds = {0, 1, 2, -1, Integer.MAX_VALUE, Integer.MIN_VALUE, 123456789};
        for (int seed : seeds) {
            long next = (seed * 1103515245L + 12345) & 0xffffffffL;
            x.seed(seed);
            x.open(0, 1);
            x.footman((int) ((next >> 8) % 100));
            Due.due("the rest of a draw from " + seed + " is not below it", x.told(0, 4), 1);
            Due.due("z behind " + seed, x.count(8), (int) next);
            x.seed(seed);
            x.footman((int) ((next >> 8) % 100) + 1);
            Due.due("but below one more", x.told(0, 4), 0);
        }
    }

    private static void drawnDoors() {
        Due.says("DOORS that are drawn: KIND the rest of a draw by 6, the first the ROOM that is the rest of one more by 8, the second 1 and the rest of one more by 8 behind it, round (of 0 .. 8), WIDE 1 and the rest of one more by 9; OPEN.");
        int seen = 0;
        for (int seed = -1500; seed < 1500; seed++) {
            OneDraught x = new OneDraught();
            x.seed(seed);
            x.deal(1);
            long[] drawn = new long[4];
            long next = seed;
            for (int i = 0; i < 4; i++) {
                next = (next * 1103515245L + 12345) & 0xffffffffL;
                drawn[i] = next >> 8;
            }
            long second = drawn[1] % 8 + 1 + drawn[2] % 8;
            Due.due("kind", x.told(0, 0), drawn[0] % 6);
            Due.due("first", x.told(0, 1), drawn[1] % 8);
            Due.due("second", x.told(0, 2), second > 8 ? second - 9 : second);
            Due.due("wide", x.told(0, 3), 1 + drawn[3] % 9);
            Due.due("open", x.told(0, 4), 1);
            seen |= second == 8 ? 1 : second == 9 ? 2 : second == 15 ? 4 : second == 1 ? 8 : 0;
        }
        Due.due("outside, round to 0, farthest round, and nearest were among them", seen, 15);
    }
}
