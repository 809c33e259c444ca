import java.util.ArrayList;
import java.util.List;

/** All that can be told of an object; the telling uses the object up. */
final class Whole {
    private final OneDraught x;
    private final List<String> rows = new ArrayList<>();

    private Whole(OneDraught x) {
        this.x = x;
    }

    /** Two objects are as one for every call, if these rows are. */
    static List<String> of(OneDraught x) {
        Whole whole = new Whole(x);
        whole.put("tape", x.count(7));
        whole.put("numbers that wait", x.count(6));
        whole.hall("now");
        whole.slots();
        whole.sheets();
        whole.put("the tape as a text", x.text());
        whole.put("its leaves", x.textTold(x.count(5) - 1, 1));
        whole.put("the text gives", x.fine());
        whole.put("the numbers that wait are the minutes", x.check(2));
        whole.put("back", x.back());
        whole.hall("the image");
        return whole.rows;
    }

    private void put(String what, int told) {
        rows.add(what + ": " + told);
    }

    private void hall(String where) {
        int[] counts = {0, 1, 2, 3, 4, 5, 8};
        for (int what : counts) {
            put(where + ", count " + what, x.count(what));
        }
        for (int door = 0; door < x.count(0); door++) {
            for (int what = 0; what < 8; what++) {
                put(where + ", door " + door + ", " + what, x.told(door, what));
            }
        }
        for (int room = 0; room < 8; room++) {
            for (int what = 0; what < 5; what++) {
                put(where + ", room " + room + ", " + what, x.room(room, what));
            }
        }
        for (int what = 0; what < 5; what++) {
            put(where + ", hall " + what, x.hall(what));
        }
        for (int text = 0; text < x.count(5); text++) {
            put(where + ", key of " + text, x.textTold(text, 0));
            put(where + ", leaves of " + text, x.textTold(text, 1));
        }
        for (int key = 0; key < 3; key++) {
            put(where + ", why " + key, x.why(key));
        }
        put(where + ", fine", x.fine());
    }

    private void slots() {
        for (int slot = 0; slot < 5; slot++) {
            put("slot " + slot + " as a number", x.rest(slot, Integer.MIN_VALUE));
            put("slot " + slot + " as a door", x.ask(slot, 0));
            items("slot " + slot, slot);
        }
    }

    private void items(String what, int slot) {
        for (int place = 0; place <= 24; place++) {
            int told = x.item(slot, place);
            put(what + ", place " + place, told);
            if (told == OneDraught.INDEX || told == OneDraught.NOTHING) {
                break;
            }
        }
    }

    private void sheets() {
        for (int sheet = 0; sheet < 4; sheet++) {
            put("sheet " + sheet + " is of the sort of sheet 1", x.copy(sheet, 0, 1, 0, 0));
            if (x.lay(4, 2, sheet) != OneDraught.NOTHING) {
                items("sheet " + sheet, 4);
            }
        }
    }
}
