/** Promises 23 to 27, and what texts give (22). */
final class TextsTest {
    public static void main(String[] args) {
        feed();
        trim();
        values();
        faults();
        deep();
        usedUp();
        textTold();
        why();
        fullOfTexts();
        Due.end();
    }

    private static void feed() {
        OneDraught x = new OneDraught();
        for (int i = 1; i <= 8; i++) {
            Due.due("feed", x.feed(0, 0, 0), 12 * i);
        }
        Due.due("feed more than 96", x.feed(0, 0, 0), OneDraught.FULL);
        Due.due("tape", x.count(7), 96);
        x.trim(85);
        Due.due("feed, 97 would be there", x.feed(0, 0, 0), OneDraught.FULL);
        x.trim(84);
        Due.due("feed, 96 are there", x.feed(0, 0, 0), 96);
        OneDraught y = new OneDraught();
        y.feed(0x66696e65, 0x20313233, 0x34202020);
        Due.due("the highest first", y.text(), 0);
        Due.due("fine 1234", y.fine(), 1234);
    }

    private static void trim() {
        OneDraught x = new OneDraught();
        Due.due("trim nothing", x.trim(0), 0);
        Due.due("trim beyond", x.trim(1), OneDraught.BAD);
        x.feed(0, 0, 0);
        Due.due("trim -1", x.trim(-1), OneDraught.BAD);
        Due.due("trim 13", x.trim(13), OneDraught.BAD);
        Due.due("trim 12", x.trim(12), 12);
        Due.due("trim 5", x.trim(5), 5);
        Due.due("tape", x.count(7), 5);
        Due.due("trim 6", x.trim(6), OneDraught.BAD);
    }

    /** GONE is 81 and THE MINUTE 1 for every one of them. */
    private static int value(String e) {
        OneDraught x = new OneDraught();
        x.wind(0);
        x.set(0, 0, 9000);
        x.door(5, 0, 8, 9);
        x.run(1);
        Due.due("fine " + e, Tape.told(x, "fine " + e), 0);
        return x.fine();
    }

    private static void values() {
        Object[][] rows = {{"g", 81}, {"m", 1}, {"0", 0}, {"0007", 7}, {"9999", 9999}, {"1+2*3", 7}, {"(1+2)*3", 9},
            {"7-2-1", 4}, {"100/7/2", 7}, {"100/(7/2)", 33}, {"(0-7)/2", -3}, {"7/0", 0}, {"(7-7)/0", 0}, {"8/2*3", 12},
            {"1<2", 1}, {"2<1", 0}, {"2<2", 0}, {"2=2", 1}, {"2=3", 0}, {"3>2", 1}, {"2>2", 0}, {"1+1=2*1", 1},
            {"1|0&0", 1}, {"(1|0)&0", 0}, {"5&7", 1}, {"5&0", 0}, {"0|7", 1}, {"0|0", 0}, {"0-5|0", 1}, {"!0", 1},
            {"!5", 0}, {"!!5", 1}, {"!0+1", 2}, {"!(0+1)", 0}, {"!g=0", 1}, {"2*!0*3", 6}, {"1<2&3<2", 0}, {"1<2|3<2", 1},
            {"1-1<1-2|5=5", 1}, {"(1<2)<3", 1}, {"g*m-80", 1}, {"  g  +  m  ", 82}, {"(g)+(m)", 82}, {"!(g)", 0},
            {"9999*9999*9999", 9999 * 9999 * 9999}, {"1&2+3", 1}, {"2*(3+(4-1)*2)", 18}};
        for (Object[] row : rows) {
            Due.due("fine " + row[0], value((String) row[0]), (Integer) row[1]);
        }
        // -2147483648 by -1
        Due.due("the least by -1", value("(0-2048*1024*1024)/(0-1)"), Integer.MIN_VALUE);
    }

    private static void fault(String text, int place) {
        OneDraught x = new OneDraught();
        Due.due("fault of '" + text + "'", Tape.told(x, text), -100 - place);
        Due.due("no text came", x.count(5), 0);
        Due.due("the tape is used up", x.count(7), 0);
    }

    private static void good(String text) {
        OneDraught x = new OneDraught();
        Due.due("text '" + text + "'", Tape.told(x, text), 0);
        Due.due("a text came", x.count(5), 1);
        Due.due("the tape is used up", x.count(7), 0);
    }

    private static void faults() {
        fault("", 0);
        fault("   ", 3);
        fault("lets", 4);
        fault("lets   ", 7);
        fault("  let w", 2);
        fault("letsw", 0);
        fault("lets9", 4);
        fault("lets99999", 4);
        fault(" lets9", 5);
        fault("Lets 9", 0);
        fault("lEts 9", 0);
        fault("9 lets", 0);
        fault("(lets 9)", 0);
        fault("lets lets", 5);
        fault("lets ww", 5);
        fault("lets wa", 5);
        fault("lets wz", 5);
        fault("lets w`", 6);
        fault("lets w{", 6);
        fault("lets 1:", 6);
        fault("lets 1/", 7);
        fault("lets f", 5);
        fault("lets s", 5);
        fault("gust w", 5);
        fault("gust o", 5);
        fault("gust g", 5);
        fault("fine f", 5);
        fault("fine w", 5);
        fault("lets m", 5);
        fault("lets w w", 7);
        fault("lets w9", 6);
        fault("lets 9w", 6);
        fault("lets 9 w", 7);
        fault("lets 12345", 5);
        fault("lets w+00000", 7);
        fault("lets 1234 5", 10);
        fault("lets w+", 7);
        fault("lets w+ ", 8);
        fault("lets +w", 5);
        fault("lets -5", 5);
        fault("lets w++w", 7);
        fault("lets w+-w", 7);
        fault("lets w*", 7);
        fault("lets w<w<w", 8);
        fault("lets w=w=w", 8);
        fault("lets w<w>w", 8);
        fault("lets w<=w", 7);
        fault("lets (w<w>w)", 9);
        fault("lets w&&w", 7);
        fault("lets w||w", 7);
        fault("lets w!w", 6);
        fault("lets !", 6);
        fault("lets !)", 6);
        fault("lets ()", 6);
        fault("lets (", 6);
        fault("lets (w", 7);
        fault("lets (w  ", 9);
        fault("lets w)", 6);
        fault("lets (w))", 8);
        fault("lets (w) w", 9);
        fault("lets (w)w", 8);
        fault("lets (w)(w)", 8);
        fault("lets w(w)", 6);
        fault("lets w.", 6);
        fault("lets\tw", 4);
        fault("lets w\0", 6);
        fault("lets " + (char) 233, 5);
        fault((char) 0xA0 + "lets w", 0);
        good("lets w");
        good("  gust  s  ");
        good("fine(g)");
        good("lets!w");
        good("lets(9)");
        good("lets w&o|w=o+w*!o");
        good("fine 1+((2)*(3))<(4>5)");
        good("gust 1<2&f<s|s>f&1=1");
    }

    private static void deep() {
        good("lets ((((((((w))))))))");
        fault("lets (((((((((w)))))))))", 13);
        good("lets !!!!!!!!w");
        fault("lets !!!!!!!!!w", 13);
        good("lets !(!(!(!(!(!(!(!(w))))))))");
        fault("lets !(!(!(!(!(!(!(!(!w))))))))", 21);
        fault("lets !(!(!(!(!(!(!(!((w)))))))))", 21);
        good("lets ((((((((w))))))))+((((((((o))))))))");
        good("lets !!!!!!!!w+!!!!!!!!o");
        good("lets !!!!(!!!!w+!!!!o)");
        fault("lets !!!!(!!!!w+!!!!!o)", 20);
        fault("lets ((((((((w+(o)))))))))", 15);
        good("lets (((((((w+(o))))))))");
        good("lets !!!!!!!!((((((((w))))))))");
        fault("lets ((((((((!!!!!!!!!", 21);
        fault("lets !!!!!!!!(((((((((", 21);
        fault("lets (((((((((", 13);
        StringBuilder longest = new StringBuilder("fine 1");
        while (longest.length() < 96) {
            longest.append("+1");
        }
        OneDraught x = new OneDraught();
        Due.due("the longest", Tape.told(x, longest.toString()), 0);
        Due.due("its value", x.fine(), 46);
        Due.due("its leaves", x.textTold(0, 1), 46);
        String right = "fine 1|1&1<1+1*(1|1&1<1+1*(1|1&1<1+1*(1|1&1<1+1*(1|1&1<1+1*(1|1&1<1+1*(1)))))))";
        Due.due("the deepest", Tape.told(x, right.substring(0, right.length() - 1)), 1);
        Due.due("its value", x.fine(), 1);
    }

    private static void usedUp() {
        OneDraught x = new OneDraught();
        Due.due("an empty tape", x.text(), -100);
        Tape.lay(x, "lets w");
        Due.due("tape", x.count(7), 6);
        Due.due("text", x.text(), 0);
        Due.due("used up", x.text(), -100);
        Due.due("texts", x.count(5), 1);
        Due.due("a fault at a word", Tape.told(x, "lets w w"), -107);
        Due.due("does not cling to the next", Tape.told(x, "lets w"), 1);
        Due.due("nor its leaves", x.textTold(1, 1), 1);
    }

    private static void textTold() {
        OneDraught x = new OneDraught();
        Due.due("no text", x.textTold(0, 0), OneDraught.BAD);
        Tape.told(x, "fine (g+m*3)&!(7<g)");
        Tape.told(x, "gust 20");
        Tape.told(x, "lets w+w");
        int[] keys = {2, 1, 0};
        int[] leaves = {5, 1, 2};
        for (int i = 0; i < 3; i++) {
            Due.due("key of " + i, x.textTold(i, 0), keys[i]);
            Due.due("leaves of " + i, x.textTold(i, 1), leaves[i]);
        }
        Due.due("text 3", x.textTold(3, 0), OneDraught.BAD);
        Due.due("text -1", x.textTold(-1, 0), OneDraught.BAD);
        Due.due("what 2", x.textTold(0, 2), OneDraught.BAD);
        Due.due("what -1", x.textTold(0, -1), OneDraught.BAD);
    }

    private static void why() {
        OneDraught x = new OneDraught();
        Tape.told(x, "fine 1");
        Tape.told(x, "gust 1");
        Tape.told(x, "fine 2");
        Due.due("why lets", x.why(0), OneDraught.NONE);
        Due.due("why gust", x.why(1), 1);
        Due.due("why fine: the last", x.why(2), 2);
        Due.due("it counts", x.fine(), 2);
        Due.due("why 3", x.why(3), OneDraught.BAD);
        Due.due("why -1", x.why(-1), OneDraught.BAD);
    }

    private static void fullOfTexts() {
        OneDraught x = new OneDraught();
        for (int i = 0; i < 14; i++) {
            Due.due("text " + i, Tape.told(x, "fine " + i), i);
        }
        Due.due("a fifteenth", Tape.told(x, "fine 99"), OneDraught.FULL);
        Due.due("used up", x.count(7), 0);
        Due.due("the fault stands first", Tape.told(x, "fine"), -104);
        Due.due("fine", x.fine(), 13);
        Due.due("texts", x.count(5), 14);
        Due.due("the last text", x.textTold(13, 0), 2);
        Due.due("a text behind the last", x.textTold(14, 0), OneDraught.BAD);
        Due.due("a text far behind it", x.textTold(15, 1), OneDraught.BAD);
    }
}
