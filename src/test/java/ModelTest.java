import java.lang.reflect.Method;
import java.util.ArrayList;
import java.util.Arrays;
import java.util.Comparator;
import java.util.List;
import java.util.Random;

/** All promises: runs of calls by lot, each answer beside that of the model. */
final class ModelTest {
    private static final Random LOT = new Random(20261118);
    private static final Method[] CALLS = calls();
    private static final String[] SIGNS = {"+", "-", "*", "/", "<", "=", ">", "&", "|"};

    private OneDraught real = new OneDraught();
    private Model model = new Model();
    private final List<String> row = new ArrayList<>();

    public static void main(String[] args) throws Exception {
        for (int run = 0; run < 600; run++) {
            new ModelTest().oneRun(run % 3 != 0);
        }
        for (int i = 0; i < 20000; i++) {
            new ModelTest().oneText();
        }
        new ModelTest().muchScent();
        Due.end();
    }

    private static Method[] calls() {
        List<Method> all = new ArrayList<>();
        for (Method m : OneDraught.class.getDeclaredMethods()) {
            if (java.lang.reflect.Modifier.isPublic(m.getModifiers())) {
                all.add(m);
            }
        }
        all.sort(Comparator.comparing(Method::getName));
        return all.toArray(new Method[0]);
    }

    private int call(String name, int... args) throws Exception {
        for (Method m : CALLS) {
            if (m.getName().equals(name)) {
                Object[] boxed = Arrays.stream(args).boxed().toArray();
                int got = (Integer) m.invoke(real, boxed);
                int want = (Integer) Model.class.getDeclaredMethod(name, m.getParameterTypes()).invoke(model, boxed);
                row.add(name + Arrays.toString(args) + " -> " + got);
                if (got != want) {
                    System.out.println(String.join("\n", row));
                }
                Due.due(name + Arrays.toString(args), got, want);
                return got;
            }
        }
        throw new IllegalStateException(name);
    }

    private void oneRun(boolean prepared) throws Exception {
        int mostRun = LOT.nextInt(4) == 0 ? 100 : 5;
        if (prepared) {
            call("seed", LOT.nextInt());
            call("deal", 1 + LOT.nextInt(6));
            for (int i = 0; i < 8; i++) {
                call("set", i, 0, LOT.nextInt(10000));
                call("set", i, 3, LOT.nextInt(2));
            }
        }
        for (int i = 0; i < 250; i++) {
            if (LOT.nextInt(12) == 0) {
                tellText(lotText());
            } else if (LOT.nextInt(25) == 0) {
                tellMinutes();
            } else {
                Method m = CALLS[LOT.nextInt(CALLS.length)];
                if (m.getName().equals("deal") && LOT.nextInt(3) != 0 || m.getName().equals("birth") && LOT.nextInt(2) != 0) {
                    continue;
                }
                call(m.getName(), lotOf(m, mostRun));
            }
        }
    }

    private static int[] lotOf(Method m, int mostRun) {
        int[] args = new int[m.getParameterCount()];
        for (int i = 0; i < args.length; i++) {
            args[i] = lotNumber();
        }
        String name = m.getName();
        if (name.equals("run")) {
            args[0] = 1 + LOT.nextInt(mostRun);
        } else if (name.equals("door") && LOT.nextInt(4) != 0) {
            args = new int[] {LOT.nextInt(6), LOT.nextInt(8), LOT.nextInt(9), 1 + LOT.nextInt(9)};
        } else if (name.equals("set") && LOT.nextInt(4) != 0) {
            int what = LOT.nextInt(4);
            args = new int[] {LOT.nextInt(8), what, LOT.nextInt(new int[] {10000, 10, 10000, 2}[what])};
        } else if (name.equals("open") && LOT.nextInt(4) != 0) {
            args = new int[] {LOT.nextInt(10), LOT.nextInt(2)};
        } else if (name.equals("birth") && LOT.nextInt(4) != 0) {
            args = new int[] {LOT.nextInt(8), LOT.nextInt(200), LOT.nextInt(4)};
        } else if (name.equals("storm") && LOT.nextInt(4) != 0) {
            args = new int[] {1 + LOT.nextInt(4)};
        } else if (name.equals("sheet") && LOT.nextInt(2) != 0) {
            args = new int[] {LOT.nextInt(4), LOT.nextInt(2), LOT.nextInt(12)};
        } else if (name.equals("mark") && LOT.nextInt(3) != 0) {
            args = new int[] {LOT.nextInt(4), LOT.nextInt(12), LOT.nextInt(5) == 0 ? OneDraught.NONE : LOT.nextInt(12000) - 1000};
        }
        return args;
    }

    private static int lotNumber() {
        switch (LOT.nextInt(12)) {
            case 0: return LOT.nextInt();
            case 1: return LOT.nextInt(12000) - 1000;
            case 2: return LOT.nextInt(130) - 10;
            case 3: return new int[] {OneDraught.NONE, Integer.MIN_VALUE, Integer.MAX_VALUE, -1, 8, 9, 10, 24, 25, 30, 31, 60, 61}[LOT.nextInt(13)];
            default: return LOT.nextInt(7);
        }
    }

    private static String lotText() {
        int key = LOT.nextInt(3);
        StringBuilder text = new StringBuilder(new String[] {"lets", "gust", "fine"}[key]);
        text.append(LOT.nextInt(10) == 0 ? "" : " ");
        lotE(text, new String[] {"wo", "fs", "gm"}[key], 0);
        int hurt = LOT.nextInt(6) == 0 ? 1 + LOT.nextInt(2) : 0;
        for (int i = 0; i < hurt && text.length() > 0; i++) {
            int at = LOT.nextInt(text.length());
            String bits = "()!+<&|=wogmfs019 .A" + (char) 200;
            switch (LOT.nextInt(3)) {
                case 0: text.deleteCharAt(at); break;
                case 1: text.insert(at, bits.charAt(LOT.nextInt(bits.length()))); break;
                default: text.setCharAt(at, bits.charAt(LOT.nextInt(bits.length())));
            }
        }
        return text.length() > 96 ? text.substring(0, 96) : text.toString();
    }

    private static void lotE(StringBuilder text, String names, int depth) {
        int parts = 1 + LOT.nextInt(4);
        for (int i = 0; i < parts && text.length() < 80; i++) {
            if (i > 0) {
                text.append(SIGNS[LOT.nextInt(SIGNS.length)]);
            }
            text.append(LOT.nextInt(8) == 0 ? " " : "");
            int sort = LOT.nextInt(7);
            for (int k = LOT.nextInt(20) == 0 ? LOT.nextInt(10) : LOT.nextInt(5) == 0 ? 1 : 0; k > 0; k--) {
                text.append('!');
            }
            if (sort < 2) {
                text.append(LOT.nextInt(3) == 0 ? LOT.nextInt(11000) : LOT.nextInt(12));
            } else if (sort < 5 || depth > 9) {
                text.append(names.charAt(LOT.nextInt(2)));
            } else {
                text.append('(');
                lotE(text, names, depth + 1);
                text.append(')');
            }
        }
        if (parts > 0 && "+-*/<=>&|! (".indexOf(text.charAt(text.length() - 1)) >= 0) {
            text.append(names.charAt(LOT.nextInt(2)));
        }
    }

    private void tellText(String text) throws Exception {
        call("trim", 0);
        for (int at = 0; at < text.length(); at += 12) {
            call("feed", four(text, at), four(text, at + 4), four(text, at + 8));
        }
        call("trim", text.length());
        int given = call("text");
        if (given >= 0) {
            call("textTold", given, 0);
            call("textTold", given, 1);
            call("why", LOT.nextInt(3));
            call("fine");
        }
    }

    private static int four(String text, int at) {
        int four = 0;
        for (int i = at; i < at + 4; i++) {
            four = four << 8 | (i < text.length() ? text.charAt(i) & 255 : LOT.nextInt(256));
        }
        return four;
    }

    private void tellMinutes() throws Exception {
        call("keep");
        int n = 1 + LOT.nextInt(4);
        for (int i = 0; i < n; i++) {
            call("run", 1);
            call("tell", call("hall", 1));
            call("tell", call("hall", 3));
        }
        if (LOT.nextInt(3) == 0) {
            call("tell", LOT.nextInt(300));
        }
        if (LOT.nextInt(2) == 0) {
            call("back");
        }
        call("check", LOT.nextInt(4) == 0 ? 1 + LOT.nextInt(5) : n);
    }

    /** One text on objects of their own; what it gives is asked with several GONES and MINUTES. */
    private void oneText() throws Exception {
        tellText(lotText());
        call("wind", LOT.nextInt(10000));
        call("door", 5, 0, 8, 9);
        call("run", 1 + LOT.nextInt(9));
        call("fine");
        call("told", 0, 5);
        call("door", LOT.nextInt(5), 0, 8, 1 + LOT.nextInt(9));
        call("told", 1, 5);
        call("open", 1, 1);
        call("told", 1, 5);
    }

    /** Scent is poured into two rooms and driven into a third, until an int does not hold scent times flow. */
    private void muchScent() throws Exception {
        int[] ends = {8, 8, 8, 1, 1, 1, 2, 2, 2, 2};
        for (int i = 0; i < 10; i++) {
            call("door", 2, i < 3 ? 0 : i < 6 ? 0 : 1, ends[i], 9);
        }
        tellText("lets 60");
        call("wind", 130);
        call("set", 2, 1, 9);
        call("set", 2, 0, 0);
        call("set", 1, 0, 100);
        call("set", 0, 0, 200);
        call("sheet", 0, 0, 2);
        call("mark", 0, 0, 9999);
        call("mark", 0, 1, 9999);
        for (int i = 0; i < 220; i++) {
            call("pour", 0);
            call("run", 40);
        }
        call("set", 2, 0, 9999);
        call("set", 1, 0, 0);
        call("run", 1);
        call("room", 1, 2);
        call("room", 2, 2);
        call("hall", 2);
        Due.holds("scent times flow went beyond an int", Model.greatest > Integer.MAX_VALUE);
    }
}
