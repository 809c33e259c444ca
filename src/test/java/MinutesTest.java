/** Promises 7, 8, 9, 12, 14: rooms, wind, minutes, the hall. */
final class MinutesTest {
    public static void main(String[] args) {
        room();
        set();
        wind();
        hall();
        minute();
        backwards();
        fires();
        gusts();
        scents();
        allAtOnce();
        lastMinute();
        wrongRuns();
        Due.end();
    }

    private static void room() {
        OneDraught x = new OneDraught();
        Due.due("room 8", x.room(8, 0), OneDraught.BAD);
        Due.due("room -1", x.room(-1, 0), OneDraught.BAD);
        Due.due("what 5", x.room(0, 5), OneDraught.BAD);
        Due.due("what -1", x.room(0, -1), OneDraught.BAD);
        x.set(1, 0, 2000);
        x.door(0, 1, 2, 5);
        x.door(0, 3, 1, 2);
        x.door(5, 1, 8, 9);
        x.open(0, 1);
        x.open(1, 1);
        Due.due("draught, signs left out", x.room(1, 4), 30 + 12 + 9);
        Due.due("draught of one end", x.room(3, 4), 12);
        Due.due("draught without doors", x.room(0, 4), 0);
    }

    private static void set() {
        OneDraught x = new OneDraught();
        int[] most = {9999, 9, 9999, 1};
        int[] first = {1000, 0, 0, 0};
        for (int what = 0; what < 4; what++) {
            Due.due("set", x.set(7, what, most[what]), first[what]);
            Due.due("set what " + what, x.room(7, what), most[what]);
            Due.due("set too much", x.set(7, what, most[what] + 1), OneDraught.BAD);
            Due.due("set below 0", x.set(7, what, -1), OneDraught.BAD);
            Due.due("set to 0", x.set(7, what, 0), most[what]);
            Due.due("it is 0", x.room(7, what), 0);
            Due.due("another room stays", x.room(6, what), first[what]);
        }
        Due.due("set room 8", x.set(8, 0, 0), OneDraught.BAD);
        Due.due("set room -1", x.set(-1, 0, 0), OneDraught.BAD);
        Due.due("set what 4", x.set(0, 4, 0), OneDraught.BAD);
        Due.due("set what -1", x.set(0, -1, 0), OneDraught.BAD);
    }

    private static void wind() {
        OneDraught x = new OneDraught();
        Due.due("wind", x.wind(9999), 1000);
        Due.due("wind again", x.wind(0), 9999);
        Due.due("wind -1", x.wind(-1), OneDraught.BAD);
        Due.due("wind 10000", x.wind(10000), OneDraught.BAD);
        Due.due("wind stays", x.count(3), 0);
    }

    private static void hall() {
        OneDraught x = new OneDraught();
        x.set(0, 0, 5);
        x.set(7, 0, 9999);
        x.wind(7);
        x.set(0, 2, 30);
        x.set(7, 2, 4);
        x.set(0, 3, 1);
        x.set(7, 3, 1);
        Due.due("air of all rooms", x.hall(1), 6000 + 5 + 9999);
        Due.due("scent of all", x.hall(2), 34);
        Due.due("candles", x.hall(3), 129);
        Due.due("candles, how many", x.count(4), 2);
        for (int i = 0; i < 10; i++) {
            x.door(0, 0, 1, 1);
        }
        x.open(9, 1);
        x.open(2, 1);
        Due.due("doors", x.hall(4), 516);
        Due.due("doors, how many", x.count(1), 2);
        Due.due("hall 5", x.hall(5), OneDraught.BAD);
        Due.due("hall -1", x.hall(-1), OneDraught.BAD);
    }

    /** Two rooms and the outside: a flow of 30 from 0 to 1, of 9 from 1 to outside. */
    private static OneDraught twoRooms() {
        OneDraught x = new OneDraught();
        x.set(0, 0, 2000);
        x.wind(0);
        x.door(0, 0, 1, 5);
        x.open(0, 1);
        x.door(5, 1, 8, 9);
        x.set(0, 2, 1000);
        x.set(1, 2, 500);
        x.set(1, 1, 4);
        x.set(0, 3, 1);
        x.set(1, 3, 1);
        x.set(2, 3, 1);
        return x;
    }

    private static void minute() {
        OneDraught x = twoRooms();
        Due.due("two candles go out", x.run(1), 2);
        Due.due("air 0", x.room(0, 0), 1970);
        Due.due("air 1", x.room(1, 0), 1000 + 30 - 9 - 4);
        Due.due("scent 0", x.room(0, 2), 985);
        Due.due("scent 1", x.room(1, 2), 511);
        Due.due("scent to outside is lost", x.hall(2), 1496);
        Due.due("gone", x.hall(0), 9);
        Due.due("wind stays", x.count(3), 0);
        Due.due("fire stays", x.room(1, 1), 4);
        Due.due("candles", x.hall(3), 4);
        Due.due("the minute", x.count(2), 1);
        Due.due("the next", x.run(1), 0);
        Due.due("air 0 then", x.room(0, 0), 1970 - 28);
        Due.due("gone then", x.hall(0), 18);
    }

    private static void backwards() {
        OneDraught x = new OneDraught();
        x.wind(9999);
        x.set(0, 0, 0);
        x.set(1, 2, 900);
        x.set(1, 3, 1);
        x.door(5, 0, 8, 9);
        x.door(0, 0, 1, 1);
        x.open(1, 1);
        Due.due("nothing goes out", x.run(1), 0);
        Due.due("air comes in", x.room(0, 0), 89 + 6);
        Due.due("gone is less", x.hall(0), -89);
        Due.due("scent comes against the door", x.room(0, 2), 5);
        Due.due("and goes from there", x.room(1, 2), 895);
    }

    private static void fires() {
        OneDraught x = new OneDraught();
        x.set(3, 0, 10);
        x.set(3, 1, 9);
        x.run(1);
        Due.due("fire", x.room(3, 0), 1);
        x.run(1);
        Due.due("air is 0 at least", x.room(3, 0), 0);
        Due.due("fire is not gone", x.hall(0), 0);
    }

    private static void gusts() {
        OneDraught x = twoRooms();
        Tape.told(x, "gust 30");
        Due.due("a draught of 30 is not above 30", x.run(1), 1);
        Due.due("room 0 stays lit", x.room(0, 3), 1);
        x = twoRooms();
        Tape.told(x, "gust (s=511)*f*250");
        Due.due("scent and fire as they are by then", x.run(1), 1);
        Due.due("room 1 stays lit", x.room(1, 3), 1);
        x = twoRooms();
        Tape.told(x, "gust 0-1");
        Due.due("a gust below 0 is 0", x.run(1), 2);
        Due.due("a draught of 0 is not above it", x.room(2, 3), 1);
        x = new OneDraught();
        x.set(0, 0, 9999);
        x.set(1, 0, 0);
        x.set(0, 3, 1);
        for (int i = 0; i < 2; i++) {
            x.door(0, 0, 1, 9);
            x.open(i, 1);
        }
        Tape.told(x, "gust 9999");
        Due.due("a draught of 1078 is above 999", x.run(1), 1);
        x = thousand(6000);
        Due.due("a draught of 1000 is above 999", x.run(1), 1);
        x = thousand(5980);
        Due.due("a draught of 996 is not", x.run(1), 0);
        x = new OneDraught();
        x.door(5, 0, 8, 1);
        x.set(0, 0, 2000);
        x.set(0, 2, 4000);
        x.set(0, 3, 1);
        Tape.told(x, "gust 0");
        Due.due("a draught of 1 is above 0", x.run(1), 1);
        Due.due("a flow of 1 carries scent", x.room(0, 2), 3998);
        x = new OneDraught();
        x.set(0, 0, 3000);
        x.set(0, 3, 1);
        x.set(1, 3, 1);
        x.door(4, 0, 1, 9);
        x.open(0, 1);
        Due.due("20 is not above 20", x.run(1), 0);
        x.set(0, 0, 3100);
        x.set(1, 0, 1000);
        Due.due("21 is", x.run(1), 2);
    }

    /** Four doors that let 50 each, and a gust as great as can be. */
    private static OneDraught thousand(int air) {
        OneDraught x = new OneDraught();
        for (int i = 0; i < 4; i++) {
            x.door(0, 0, 1, 1);
        }
        x.set(0, 0, air);
        x.set(0, 3, 1);
        Tape.told(x, "lets 50");
        Tape.told(x, "gust 9999");
        return x;
    }

    private static void scents() {
        OneDraught x = new OneDraught();
        x.set(0, 0, 3000);
        x.set(1, 0, 2000);
        x.set(0, 2, 3000);
        x.set(1, 2, 2000);
        x.door(0, 0, 1, 5);
        x.door(0, 1, 2, 5);
        x.open(0, 1);
        x.open(1, 1);
        x.run(1);
        Due.due("scent 0", x.room(0, 2), 2970);
        Due.due("scent 1, by what was ahead", x.room(1, 2), 2000 + 30 - 30);
        Due.due("scent 2", x.room(2, 2), 30);
        Due.due("none is lost", x.hall(2), 5000);
    }

    private static void allAtOnce() {
        OneDraught x = new OneDraught();
        x.set(0, 0, 9000);
        for (int i = 0; i < 7; i++) {
            x.door(0, i, i + 1, 9);
            x.open(i, 1);
        }
        int[] air = {9000, 1000, 1000, 1000, 1000, 1000, 1000, 1000};
        for (int n = 0; n < 60; n++) {
            int[] ahead = air.clone();
            for (int i = 0; i < 7; i++) {
                int flow = (ahead[i] - ahead[i + 1]) * 54 / 1000;
                air[i] -= flow;
                air[i + 1] += flow;
            }
            x.run(1);
            for (int i = 0; i < 8; i++) {
                Due.due("air " + i + " in " + n, x.room(i, 0), air[i]);
            }
            Due.due("none is lost", x.hall(1), 16000);
        }
    }

    private static void lastMinute() {
        OneDraught x = new OneDraught();
        x.set(0, 0, 9999);
        x.set(0, 1, 1);
        for (int i = 0; i < 99; i++) {
            x.run(100);
        }
        x.run(98);
        Due.due("9998", x.count(2), 9998);
        Due.due("air", x.room(0, 0), 1);
        x.set(0, 0, 9999);
        x.run(100);
        Due.due("9999", x.count(2), 9999);
        Due.due("one minute went", x.room(0, 0), 9998);
        x.set(0, 3, 1);
        Due.due("no more", x.run(100), 0);
        Due.due("nothing went", x.room(0, 0), 9998);
        Due.due("thought has no such bound", x.behind(0, 100, 0), 9898);
    }

    private static void wrongRuns() {
        OneDraught x = new OneDraught();
        Due.due("run(0)", x.run(0), OneDraught.BAD);
        Due.due("run(101)", x.run(101), OneDraught.BAD);
        Due.due("run(-1)", x.run(-1), OneDraught.BAD);
        Due.due("no minute went", x.count(2), 0);
    }
}
