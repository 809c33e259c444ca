import java.util.List;

/** Objects that are made alike; a call is made on one of them, and then both are looked at as a whole. */
final class Twin {
    interface Made {
        OneDraught made();
    }

    interface Call {
        int on(OneDraught x);
    }

    interface CallWith {
        int on(OneDraught x, int v);
    }

    private Twin() {
    }

    /** An object with 4 doors, 3 texts, sheets of both sorts, a thing in most slots, an image, waiting numbers, a tape. */
    static OneDraught furnished() {
        OneDraught x = new OneDraught();
        x.door(3, 0, 1, 9);
        x.door(2, 1, 8, 4);
        x.door(5, 7, 0, 9);
        x.open(0, 1);
        int[][] set = {{0, 0, 3000}, {7, 0, 0}, {0, 1, 3}, {0, 2, 500}, {1, 2, 40}, {0, 3, 1}, {5, 3, 1}, {7, 3, 1}};
        for (int[] s : set) {
            x.set(s[0], s[1], s[2]);
        }
        x.wind(2500);
        Tape.told(x, "gust f+17");
        Tape.told(x, "fine g*10+m");
        x.seed(77);
        x.run(2);
        x.keep();
        for (int i = 0; i < 2; i++) {
            x.run(1);
            x.tell(x.hall(1));
            x.tell(x.hall(3));
        }
        x.open(1, 1);
        x.set(2, 0, 1234);
        x.wind(40);
        Tape.told(x, "lets w*5");
        x.door(0, 3, 4, 5);
        x.seed(78);
        furnishSheets(x);
        Tape.lay(x, "fine m+7");
        return x;
    }

    private static void furnishSheets(OneDraught x) {
        x.sheet(0, 0, 3);
        x.mark(0, 0, 5);
        x.mark(0, 1, -6);
        x.mark(0, 2, 700);
        x.sheet(1, 1, 4);
        x.mark(1, 0, 99999);
        x.mark(1, 1, OneDraught.NONE);
        x.mark(1, 2, -5);
        x.sheet(2, 0, 0);
        x.lay(1, 1, 0);
        x.lay(2, 2, 1);
        x.lay(3, 3, -12345);
        x.lay(4, 3, 5);
    }

    /** A new object in which so many MINUTES went. */
    static OneDraught atMinute(int minute) {
        OneDraught x = new OneDraught();
        for (int i = 0; i < minute / 100; i++) {
            x.run(100);
        }
        if (minute % 100 > 0) {
            x.run(minute % 100);
        }
        return x;
    }

    /** The call answers so, and nothing is otherwise than without it. */
    static void refused(String what, int due, Call call) {
        refused(what, due, Twin::furnished, call);
    }

    static void refused(String what, int due, Made made, Call call) {
        refused(what, due, made, call, made);
    }

    /** The call answers so, and then all is as another object is that was made otherwise. */
    static void refused(String what, int due, Made made, Call call, Made then) {
        OneDraught x = made.made();
        Due.due(what, call.on(x), due);
        alike(what, x, then.made());
    }

    static void bad(String what, Call call) {
        refused(what, OneDraught.BAD, call);
    }

    /** Right ahead of the range, right behind it and far outside it is BAD; its first and its last are not. */
    static void range(String what, int least, int most, CallWith call) {
        range(what, least, most, Twin::furnished, call);
    }

    static void range(String what, int least, int most, Made made, CallWith call) {
        int[] outside = {least - 1, most + 1, Integer.MIN_VALUE, Integer.MAX_VALUE};
        for (int v : outside) {
            refused(what + " " + v, OneDraught.BAD, made, x -> call.on(x, v));
        }
        Due.holds(what + " " + least + " is not BAD", call.on(made.made(), least) != OneDraught.BAD);
        Due.holds(what + " " + most + " is not BAD", call.on(made.made(), most) != OneDraught.BAD);
    }

    /** The call only tells: nothing is otherwise than without it. */
    static void tells(String what, Call call) {
        OneDraught x = furnished();
        Due.holds(what + " is not BAD", call.on(x) != OneDraught.BAD);
        alike(what, x, furnished());
    }

    static void alike(String what, OneDraught x, OneDraught y) {
        List<String> one = Whole.of(x);
        List<String> other = Whole.of(y);
        boolean alike = one.equals(other);
        Due.holds(what + ": nothing else changed", alike);
        for (int i = 0; !alike && i < Math.min(one.size(), other.size()); i++) {
            if (!one.get(i).equals(other.get(i))) {
                System.out.println("  " + one.get(i) + ", due is " + other.get(i));
            }
        }
    }
}
