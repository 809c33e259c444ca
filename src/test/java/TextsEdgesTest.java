/** Promises 23 to 27 and Terms 4, sentence by sentence: bytes, blanks, faults, depths, and what is worked out. */
final class TextsEdgesTest {
    private static final int BAD = OneDraught.BAD;
    private static final int FULL = OneDraught.FULL;
    private static final int NONE = OneDraught.NONE;

    public static void main(String[] args) {
        feed();
        trim();
        fourteen();
        usedUp();
        keys();
        grammar();
        loosestFirst();
        names();
        words();
        blanks();
        faults();
        deepest();
        tooSoon();
        ints();
        truths();
        toldLast();
        text();
        textTold();
        why();
        Due.end();
    }

    private static OneDraught taped(int bytes) {
        OneDraught x = new OneDraught();
        for (int i = 0; i < 8; i++) {
            x.feed(0x20202020, 0x20202020, 0x20202020);
        }
        x.trim(bytes);
        return x;
    }

    private static void feed() {
        Due.says("Twelve bytes come to THE TAPE, the highest of each number first: how many it has.");
        OneDraught x = new OneDraught();
        for (int i = 1; i <= 8; i++) {
            Due.due("feed " + i, x.feed(-1, Integer.MIN_VALUE, BAD), 12 * i);
            Due.due("bytes", x.count(7), 12 * i);
        }
        OneDraught y = new OneDraught();
        y.feed(0x66696e65, 0x2831322b, 0x33343529);
        Due.due("fine(12+345)", y.text(), 0);
        Due.due("the highest first, the first number first", y.fine(), 357);
        Due.due("twelve, not fewer", taped(1).feed(0, 0, 0), 13);
        Due.due("behind 84", taped(84).feed(0, 0, 0), 96);
        Due.says("FULL: it would have more than 96.");
        for (int bytes = 85; bytes <= 96; bytes++) {
            int there = bytes;
            Twin.refused("behind " + there, FULL, () -> taped(there), t -> t.feed(0x66696e65, 0x20202020, 0x35202020));
        }
    }

    private static void trim() {
        Due.says("THE TAPE keeps its first n bytes: n. BAD.");
        Twin.range("n", 0, 8, (x, v) -> x.trim(v));
        Twin.range("n of 96", 0, 96, () -> taped(96), (x, v) -> x.trim(v));
        Due.due("nothing of nothing", new OneDraught().trim(0), 0);
        Twin.refused("one of nothing", BAD, OneDraught::new, x -> x.trim(1));
        OneDraught x = new OneDraught();
        Tape.lay(x, "fine 1234567");
        x.trim(9);
        Due.due("bytes", x.count(7), 9);
        Due.due("no more than are there", x.trim(10), BAD);
        Due.due("as many as are there", x.trim(9), 9);
        x.text();
        Due.due("the first", x.fine(), 1234);
        Tape.lay(x, "fine 1");
        x.trim(0);
        Due.due("nothing is kept", x.text(), -100);
    }

    private static OneDraught fourteenTexts() {
        OneDraught x = new OneDraught();
        for (int i = 0; i < 14; i++) {
            Due.due("numbered from 0", Tape.told(x, "fine 10+" + i), i);
        }
        return x;
    }

    private static OneDraught fullWith(String tape) {
        OneDraught x = fourteenTexts();
        Tape.lay(x, tape);
        return x;
    }

    private static String padded(String text, int length) {
        StringBuilder all = new StringBuilder(text);
        while (all.length() < length) {
            all.append(' ');
        }
        return all.toString();
    }

    private static void fourteen() {
        Due.says("TEXTS, 14 at most, numbered from 0, from THE TAPE (96 bytes at most; an act that reads it uses it up, whatever it answers): KEY E.");
        OneDraught x = fourteenTexts();
        Due.due("fourteen", x.count(5), 14);
        Due.due("a fifteenth", Tape.told(x, "fine 99"), FULL);
        Due.due("one of another key", Tape.told(x, "lets 9"), FULL);
        Due.due("fourteen", x.count(5), 14);
        Due.due("the last counts", x.fine(), 23);
        Due.due("none for lets", x.why(0), NONE);
        OneDraught longest = new OneDraught();
        Due.due("96 bytes", Tape.told(longest, padded("fine 7", 96)), 0);
        Due.due("its value", longest.fine(), 7);
        StringBuilder sums = new StringBuilder("fine 1");
        while (sums.length() < 96) {
            sums.append("+1");
        }
        Due.due("96 bytes of sums", Tape.told(longest, sums.toString()), 1);
        Due.due("46 of them", longest.fine(), 46);
        Due.due("a fault at the last byte", Tape.told(longest, padded("fine 7", 95) + "8"), -100 - 95);
        Due.due("a fault behind it", Tape.told(longest, padded("fine 7", 95) + "+"), -100 - 96);
    }

    private static void usedUp() {
        String[] tapes = {"fine 1", "fine", "", "fine 99999", "fine 1 1"};
        int[] due = {0, -104, -100, -105, -107};
        for (int i = 0; i < tapes.length; i++) {
            OneDraught x = new OneDraught();
            Tape.lay(x, tapes[i]);
            Due.due("'" + tapes[i] + "'", x.text(), due[i]);
            Due.due("'" + tapes[i] + "' is used up", x.count(7), 0);
            Due.due("nothing is left", x.text(), -100);
        }
        OneDraught full = fullWith("fine 5");
        Due.due("full", full.text(), FULL);
        Due.due("used up", full.count(7), 0);
        OneDraught again = new OneDraught();
        Tape.lay(again, "fine 12345678");
        again.text();
        Tape.lay(again, "fine 1");
        Due.due("what was on the tape is not there any more", again.text(), 0);
        Due.due("its value", again.fine(), 1);
    }

    private static void good(String text) {
        OneDraught x = new OneDraught();
        Due.due("'" + text + "'", Tape.told(x, text), 0);
        Due.due("a text came by '" + text + "'", x.count(5), 1);
    }

    private static void fault(String text, int place) {
        OneDraught x = new OneDraught();
        Due.due("'" + text + "'", Tape.told(x, text), -100 - place);
        Due.due("no text came by '" + text + "'", x.count(5), 0);
        Due.due("none counts", x.why(0) + x.why(1) + x.why(2) - 3 * NONE, 0);
    }

    private static void keys() {
        Due.says("KEY: lets | gust | fine.");
        String[] keys = {"lets", "gust", "fine"};
        for (int key = 0; key < 3; key++) {
            OneDraught x = new OneDraught();
            Due.due(keys[key], Tape.told(x, keys[key] + " 5"), 0);
            Due.due("its key", x.textTold(0, 0), key);
            fault(keys[key].substring(0, 3) + " 5", 0);
            fault(keys[key] + "s 5", 0);
            fault("a" + keys[key] + " 5", 0);
            fault(keys[key].toUpperCase() + " 5", 0);
            fault(keys[key].substring(0, 3) + "x 5", 0);
            fault(keys[key] + " " + keys[key] + " 5", 5);
        }
        fault("w 5", 0);
        fault("5", 0);
        fault("(fine 5)", 0);
        fault("!fine 5", 0);
    }

    private static void grammar() {
        Due.says("E, the loosest first: OR: AND { | AND }; AND: TEST { & TEST }; TEST: SUM [ (< | = | >) SUM ]; SUM: TERM { (+ | -) TERM }; TERM: PIECE { (* | /) PIECE }; PIECE: NUMBER (1 to 4 digits) | NAME | ! PIECE | ( E ).");
        String[] signs = {"|", "&", "<", "=", ">", "+", "-", "*", "/"};
        for (String sign : signs) {
            good("fine 1" + sign + "2");
            fault("fine 1" + sign, 7);
            fault("fine " + sign + "1", 5);
            fault("fine 1" + sign + sign + "2", 7);
            fault("fine 1" + sign + ")", 7);
            boolean test = "<=>".contains(sign);
            for (String other : signs) {
                if (test && "<=>".contains(other)) {
                    fault("fine 1" + sign + "2" + other + "3", 8);
                    good("fine 1" + sign + "(2" + other + "3)");
                    good("fine (1" + sign + "2)" + other + "3");
                    good("fine 1" + sign + "2&1" + other + "3");
                    good("fine 1" + sign + "2|1" + other + "3");
                } else {
                    good("fine 1" + sign + "2" + other + "3");
                }
            }
        }
        good("fine 0");
        good("fine 0000");
        good("fine 9999");
        fault("fine 00000", 5);
        fault("fine 10000", 5);
        fault("fine 1+12345", 7);
        good("fine !1");
        good("fine !g");
        good("fine !(1)");
        good("fine !!1");
        fault("fine !", 6);
        fault("fine !+1", 6);
        fault("fine 1!", 6);
        fault("fine 1!2", 6);
        good("fine (1)");
        fault("fine ()", 6);
        fault("fine (1", 7);
        fault("fine 1)", 6);
        fault("fine (1)1", 8);
        fault("fine 1(1)", 6);
        fault("fine (1)(1)", 8);
        fault("fine )1(", 5);
    }

    private static int value(String e) {
        OneDraught x = new OneDraught();
        Due.due("'fine " + e + "' is a text", Tape.told(x, "fine " + e), 0);
        return x.fine();
    }

    private static void loosestFirst() {
        Object[][] rows = {{"1|0&0", 1}, {"0&0|1", 1}, {"1&2<1", 0}, {"2>1&1", 1}, {"1<1+1", 1}, {"1+1>1", 1}, {"1=0+1", 1}, {"2+3*4", 14},
            {"2*3+4", 10}, {"20-6/3", 18}, {"!0*5", 5}, {"!5+5", 5}, {"!1=0", 1}, {"!0&0", 0}, {"9-3-2", 4}, {"9-3+2", 8}, {"64/4/2", 8},
            {"64/4*2", 32}, {"3*5/2", 7}, {"7/2*2", 6}, {"1|1&0", 1}, {"(1|1)&0", 0}, {"2*(3+4)", 14}, {"9-(3-2)", 8}, {"64/(4/2)", 32}};
        for (Object[] row : rows) {
            Due.due("fine " + row[0], value((String) row[0]), (Integer) row[1]);
        }
    }

    private static void names() {
        Due.says("NAMES, each one letter: of lets w WIDE, o whether it is OPEN (1, 0); of gust f FIRE, s SCENT of the ROOM; of fine g GONE, m THE MINUTE (what fine gives is told by fine(); without a TEXT: GONE).");
        String[] keys = {"lets", "gust", "fine"};
        String[] own = {"wo", "fs", "gm"};
        for (int key = 0; key < 3; key++) {
            for (char name = 'a'; name <= 'z'; name++) {
                if (own[key].indexOf(name) >= 0) {
                    good(keys[key] + " " + name);
                    fault(keys[key] + " " + name + name, 5);
                    fault(keys[key] + " " + Character.toUpperCase(name), 5);
                } else {
                    fault(keys[key] + " " + name, 5);
                }
            }
        }
        OneDraught x = new OneDraught();
        x.door(0, 0, 1, 9);
        Tape.told(x, "lets w*2+o");
        Due.due("w, and o of one that is shut", x.told(0, 5), 18);
        x.open(0, 1);
        Due.due("o of one that is open", x.told(0, 5), 19);
        OneDraught y = new OneDraught();
        y.wind(9999);
        y.door(5, 0, 8, 9);
        y.run(1);
        Due.due("without a text: gone", y.fine(), -80);
        Tape.told(y, "fine g");
        Due.due("g below 0", y.fine(), -80);
        Tape.told(y, "fine m");
        Due.due("m", y.fine(), 1);
        gustNames();
    }

    private static void gustNames() {
        for (int fire = 0; fire < 10; fire += 9) {
            OneDraught x = new OneDraught();
            x.set(0, 0, 9999);
            x.set(0, 1, fire);
            x.set(0, 2, 9999);
            x.set(1, 1, 9 - fire);
            x.set(0, 3, 1);
            x.set(1, 3, 1);
            x.door(5, 0, 1, 9);
            Tape.told(x, "gust f*9");
            Due.due("a draught of 80 blows out where no fire is", x.run(1), 1);
            Due.due("f is that of the room itself", x.hall(3), fire == 9 ? 1 : 2);
        }
        OneDraught s = new OneDraught();
        s.set(0, 0, 9999);
        s.set(0, 2, 9999);
        s.set(1, 2, 5);
        s.set(0, 3, 1);
        s.set(1, 3, 1);
        s.door(5, 0, 1, 9);
        Tape.told(s, "gust s");
        s.run(1);
        Due.due("s is that of the room itself, with what came", s.hall(3), 3);
        OneDraught t = new OneDraught();
        t.set(0, 0, 9999);
        t.set(0, 2, 9999);
        t.set(0, 3, 1);
        t.set(1, 3, 1);
        t.door(5, 0, 1, 9);
        Tape.told(t, "gust s-1");
        t.run(1);
        Due.due("80 came: a draught of 80 is above 79", t.hall(3), 1);
    }

    private static void words() {
        Due.says("A word is a row of letters a .. z, or of digits, as long as it goes; any other byte is a sign by itself.");
        for (int b = 0; b < 256; b++) {
            String sign = String.valueOf((char) b);
            boolean word = b >= 'a' && b <= 'z' || b >= '0' && b <= '9';
            boolean goesOn = "|&<=>+-*/".indexOf(b) >= 0;
            if (b == ' ') {
                good("fine 1" + sign);
            } else if (b >= '0' && b <= '9') {
                good("fine 1" + sign);
            } else if (goesOn) {
                fault("fine 1" + sign, 7);
            } else {
                fault("fine 1" + sign, 6);
            }
            if (b != ' ' && b != '(' && b != '!' && b != 'g' && b != 'm' && !(b >= '0' && b <= '9')) {
                fault("fine " + sign, 5);
            }
            if (!word && b != ' ') {
                fault(sign + "fine 1", 0);
                fault("fine g" + sign, goesOn ? 7 : 6);
            }
        }
        for (char letter = 'a'; letter <= 'z'; letter++) {
            fault("fine g" + letter, 5);
            fault("fine " + letter + "g", 5);
            fault("fine" + letter + " 1", 0);
        }
        for (char digit = '0'; digit <= '9'; digit++) {
            fault("fine 1234" + digit, 5);
            fault("fine " + digit + "1234", 5);
            fault("fine" + digit, 4);
        }
        fault("fine gg+1", 5);
        fault("fine 12345", 5);
        fault("fine g_", 6);
        fault("fi ne 1", 0);
        fault("fine 1 2", 7);
        fault("fine g m", 7);
        fault("fine 1<=2", 7);
    }

    private static void blanks() {
        Due.says("Between words and signs, and at the ends, there may be blanks (byte 32); a word right behind another one needs one.");
        good("fine g");
        good("   fine   (  g  +  1  )  *  !  m   ");
        good("fine(g+1)*!m");
        good("fine!g");
        good("fine(1)");
        fault("fine1", 4);
        fault("fine 1g", 6);
        fault("fine g1", 6);
        fault("fine g+1m", 8);
        fault("fine1234567", 4);
        fault("fine\t1", 4);
        fault("fine\n1", 4);
        fault("fine" + (char) 160 + "1", 4);
        fault("fine" + (char) 0 + "1", 4);
        fault("\tfine 1", 0);
        fault("fine 1\t", 6);
        fault("fine ! ! ! +", 11);
    }

    private static void faults() {
        Due.says("FAULT: the first byte of the first word or sign with which no TEXT goes on (a word that needs a blank ahead of it, a NUMBER of more than 4 digits, the ninth ( that would be open within others, the ninth ! likewise, each by itself); the end (the place behind the last byte), if it comes too soon.");
        fault("fine 1 + + 99999 )", 9);
        fault("fine (1+2)) + ) 99999", 10);
        fault("fine    99999", 8);
        fault("fine 1<2<99999", 8);
        fault("fine (1<2)=3=4", 12);
        fault("fine 1 1234567", 7);
        fault("fine 123 45", 9);
        fault("fine 1+99999g", 7);
        fault("fine g99999", 6);
        fault("fine (1 22)", 8);
        fault("fine (g mm)", 8);
        fault("fine (1<2>3)", 9);
        fault("fine 1234g", 9);
        fault("fine 12345g", 5);
        fault("x", 0);
        fault("   x", 3);
    }

    private static String many(String part, int times) {
        return part.repeat(times);
    }

    private static void deepest() {
        good("fine " + many("(", 8) + "1" + many(")", 8));
        fault("fine " + many("(", 9) + "1" + many(")", 9), 13);
        fault("fine " + many("(", 9), 13);
        fault("fine " + many("( ", 9), 21);
        good("fine " + many("(", 8) + "1" + many(")", 8) + "+" + many("(", 8) + "1" + many(")", 8));
        good("fine " + many("(1)+", 20) + "1");
        fault("fine " + many("(", 8) + "1+(1)" + many(")", 8), 15);
        good("fine " + many("(", 7) + "(1)+(1)" + many(")", 7));
        good("fine " + many("!", 8) + "1");
        fault("fine " + many("!", 9) + "1", 13);
        fault("fine " + many("!", 9), 13);
        fault("fine " + many("! ", 9), 21);
        good("fine " + many("!", 8) + "1+" + many("!", 8) + "1");
        good("fine " + many("!1+", 20) + "1");
        good("fine " + many("!", 8) + many("(", 8) + "1" + many(")", 8));
        good("fine " + many("(", 8) + many("!", 8) + "1" + many(")", 8));
        good("fine " + many("!(", 8) + "1" + many(")", 8));
        fault("fine " + many("!(", 8) + "!1" + many(")", 8), 21);
        fault("fine " + many("!(", 8) + "(1)" + many(")", 8), 21);
        fault("fine " + many("(!", 8) + "!1" + many(")", 8), 21);
        fault("fine " + many("!", 8) + "(1+!1)", 16);
        good("fine " + many("!", 7) + "(1+!1)+!1");
        good("fine " + many("!", 8) + "(1)+!1");
        Due.due("eight ! give what is true", value(many("!", 8) + "5"), 1);
        Due.due("eight ( give what is in them", value(many("(", 8) + "5" + many(")", 8)), 5);
    }

    private static void tooSoon() {
        fault("", 0);
        fault(" ", 1);
        fault(padded("", 96), 96);
        fault("fine", 4);
        fault("fine ", 5);
        fault(" fine  ", 7);
        fault("fine !", 6);
        fault("fine (", 6);
        fault("fine (1", 7);
        fault("fine (1+", 8);
        fault("fine (1+  ", 10);
        fault("fine ((1)", 9);
        fault("fine 1<", 7);
        fault("fin", 0);
        fault("f", 0);
        fault(padded("fine (1", 96), 96);
    }

    private static void ints() {
        Due.says("Ints wrap; / is 0 by 0; tests, & | ! give 1 or 0 (what is not 0 is true; both sides are worked out).");
        Due.due("beyond the most", value("2048*1024*1024"), Integer.MIN_VALUE);
        Due.due("the most", value("2048*1024*1024-1"), Integer.MAX_VALUE);
        Due.due("one more than the most", value("2048*1024*1024-1+1"), Integer.MIN_VALUE);
        Due.due("one less than the least", value("0-2048*1024*1024-1"), Integer.MAX_VALUE);
        Due.due("twice", value("4096*1024*1024"), 0);
        Due.due("9999 three times", value("9999*9999*9999"), 9999 * 9999 * 9999);
        Due.due("the least by -1", value("2048*1024*1024/(0-1)"), Integer.MIN_VALUE);
        Due.due("5 by 0", value("5/0"), 0);
        Due.due("-5 by 0", value("(0-5)/0"), 0);
        Due.due("0 by 0", value("0/0"), 0);
        Due.due("by a piece that is 0", value("5/(1-1)"), 0);
        Due.due("by 0, and on", value("5/0+3"), 3);
        Due.due("0 by 5", value("0/5"), 0);
        Due.due("the least is below the most", value("2048*1024*1024<2048*1024*1024-1"), 1);
        Due.due("not above it", value("2048*1024*1024>2048*1024*1024-1"), 0);
    }

    private static void truths() {
        Object[][] rows = {{"1<2", 1}, {"2<2", 0}, {"3<2", 0}, {"1=2", 0}, {"2=2", 1}, {"3=2", 0}, {"1>2", 0}, {"2>2", 0}, {"3>2", 1},
            {"0-1<0", 1}, {"0-1>0", 0}, {"0&0", 0}, {"0&5", 0}, {"5&0", 0}, {"5&6", 1}, {"0-1&0-2", 1}, {"0|0", 0}, {"0|5", 1}, {"5|0", 1},
            {"5|6", 1}, {"0-1|0", 1}, {"4&3", 1}, {"!0", 1}, {"!1", 0}, {"!5", 0}, {"!(0-1)", 0}, {"!!0", 0}, {"!!5", 1}, {"(3>2)+(2>1)", 2},
            {"0&5/0", 0}, {"1|5/0", 1}};
        for (Object[] row : rows) {
            Due.due("fine " + row[0], value((String) row[0]), (Integer) row[1]);
        }
    }

    private static void toldLast() {
        Due.says("Of a KEY that TEXT counts that was told last.");
        OneDraught x = new OneDraught();
        x.door(0, 0, 1, 1);
        Tape.told(x, "fine 1");
        Tape.told(x, "lets 1");
        Tape.told(x, "fine 2");
        Tape.told(x, "lets 2");
        Due.due("fine", x.fine(), 2);
        Due.due("lets", x.told(0, 5), 2);
        Tape.told(x, "fine 3+");
        Due.due("one with a fault was not told", x.fine(), 2);
        Due.due("it is that one", x.why(2), 2);
        x.keep();
        Tape.told(x, "fine 9");
        Tape.told(x, "lets 9");
        x.back();
        Due.due("those of the image", x.fine() * 10 + x.told(0, 5), 22);
        Tape.told(x, "lets 7");
        Due.due("told behind that", x.told(0, 5), 7);
        Due.due("its number", x.why(0), 4);
    }

    private static void text() {
        Due.says("THE TAPE is a TEXT: its number. -100 less the place of its FAULT; FULL.");
        OneDraught x = new OneDraught();
        Due.due("the first", Tape.told(x, "fine 1"), 0);
        Due.due("a fault at 0", Tape.told(x, "x"), -100);
        Due.due("a fault at the end of 96", Tape.told(x, padded("fine", 96)), -196);
        Due.due("the next", Tape.told(x, "gust 1"), 1);
        Twin.refused("a fifteenth", FULL, () -> fullWith("fine 5"), OneDraught::text, TextsEdgesTest::fourteenTexts);
        Twin.refused("a fault ahead of full", -106, () -> fullWith("fine !"), OneDraught::text, TextsEdgesTest::fourteenTexts);
        Twin.refused("an empty tape ahead of full", -100, TextsEdgesTest::fourteenTexts, OneDraught::text);
        Twin.refused("an empty tape", -100, OneDraught::new, OneDraught::text);
    }

    private static void textTold() {
        Due.says("Of a TEXT: what 0 KEY (0 lets, 1 gust, 2 fine), 1 how many NUMBERS and NAMES it has. BAD.");
        Twin.range("text", 0, 2, (x, v) -> x.textTold(v, 0));
        Twin.range("what", 0, 1, (x, v) -> x.textTold(0, v));
        Twin.range("text of fourteen", 0, 13, TextsEdgesTest::fourteenTexts, (x, v) -> x.textTold(v, 1));
        Twin.tells("textTold", x -> x.textTold(0, 1));
        Due.due("no texts", new OneDraught().textTold(0, 0), BAD);
        OneDraught x = new OneDraught();
        String[] texts = {"lets 1", "gust f", "fine !!!(((g)))", "fine (1+g)*m/0005-!7"};
        int[] keys = {0, 1, 2, 2};
        int[] leaves = {1, 1, 1, 5};
        for (int i = 0; i < 4; i++) {
            Tape.told(x, texts[i]);
            Due.due("key of " + texts[i], x.textTold(i, 0), keys[i]);
            Due.due("numbers and names of " + texts[i], x.textTold(i, 1), leaves[i]);
        }
        x.keep();
        Tape.told(x, "lets 1+1");
        x.back();
        Due.due("one that is told no more", x.textTold(4, 0), BAD);
    }

    private static void why() {
        Due.says("The TEXT that counts for a KEY. BAD; NONE.");
        Twin.range("key", 0, 2, (x, v) -> x.why(v));
        Twin.tells("why", x -> x.why(2));
        OneDraught x = new OneDraught();
        String[] keys = {"lets", "gust", "fine"};
        for (int key = 2; key >= 0; key--) {
            Due.due("none for " + keys[key], x.why(key), NONE);
            Tape.told(x, keys[key] + " 1");
            Due.due("for " + keys[key], x.why(key), 2 - key);
        }
        Due.due("the last of fourteen", fourteenTexts().why(2), 13);
        Due.due("a key behind the last", x.why(3), BAD);
    }
}
