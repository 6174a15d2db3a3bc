import java.lang.reflect.InvocationTargetException;
import java.lang.reflect.Method;
import java.lang.reflect.Modifier;
import java.util.ArrayList;
import java.util.Comparator;
import java.util.List;
import java.util.Random;

/** Random runs of calls, the same ones on BoxBearers and on the plain model: each answer must be like. */
public final class ModelTest {
    private static final String[] VALUES = {"weight", "hands", "might", "lean", "borne", "town", "day"};
    private static final String[] PIECES = {"towns", "road", "box", "bearer", "under", "talk", "falls", "or", "and", "not",
        "weight", "hands", "might", "lean", "borne", "town", "day", "x", ";", "(", ")", "+", "-", "*", "/", "<", "=", "0", "1",
        "3", "7", "9", "10", "40", "99", "100", "9999", "10000", "00002", "A", "\t", ">", "\u00e9"};
    private static final int LANDS = 1500;
    private static final int TEXTS = 60000;

    private final Random random = new Random(20261118L);
    private int wrong = 0;

    public static void main(String[] args) throws Exception {
        ModelTest test = new ModelTest();
        test.compareTexts();
        test.compareRuns();
        System.out.println(test.wrong == 0 ? "ModelTest: all answers are like" : test.wrong + " answers are not like");
        if (test.wrong != 0) {
            System.exit(1);
        }
    }

    private int upTo(int most) {
        return random.nextInt(most + 1);
    }

    private boolean oneIn(int n) {
        return random.nextInt(n) == 0;
    }

    private String expr(int depth) {
        StringBuilder s = new StringBuilder();
        int parts = 1 + upTo(3);
        boolean tested = false;
        for (int i = 0; i < parts; i++) {
            if (i > 0) {
                String[] joins = {"+", "-", "*", "/", "and", "or", tested ? "+" : "<", tested ? "-" : "="};
                String join = joins[random.nextInt(joins.length)];
                tested = join.equals("<") || join.equals("=") || tested && join.length() == 1;
                s.append(' ').append(join).append(' ');
                if (join.length() > 1 && oneIn(4)) {
                    s.append("not ");
                }
            } else if (oneIn(6)) {
                s.append("not ");
            }
            if (depth < 5 && oneIn(4)) {
                s.append('(').append(expr(depth + 1)).append(')');
            } else {
                s.append(oneIn(3) ? Integer.toString(upTo(oneIn(5) ? 9999 : 12)) : VALUES[random.nextInt(VALUES.length)]);
            }
        }
        return s.toString();
    }

    private String goodText() {
        StringBuilder s = new StringBuilder();
        int towns = 4;
        if (!oneIn(3)) {
            towns = 2 + upTo(6);
            s.append("towns ").append(towns).append(";");
        }
        boolean[][] road = new boolean[8][8];
        for (int i = upTo(9); i > 0; i--) {
            int a = random.nextInt(towns);
            int b = random.nextInt(towns);
            if (a != b && !road[a][b]) {
                road[a][b] = road[b][a] = true;
                s.append("road ").append(a).append(' ').append(b).append(' ').append(upTo(9)).append(";");
            }
        }
        int boxes = oneIn(12) ? 0 : 1 + upTo(oneIn(4) ? 5 : 2);
        for (int i = 0; i < boxes; i++) {
            s.append("box ").append(1 + upTo(oneIn(3) ? 98 : 30));
            for (int k = 1 + upTo(oneIn(3) ? 5 : 2); k > 0; k--) {
                s.append(' ').append(random.nextInt(towns));
            }
            s.append(";");
        }
        int bearers = oneIn(12) ? 0 : 1 + upTo(oneIn(3) ? 7 : 4);
        for (int i = 0; i < bearers; i++) {
            s.append("bearer ").append(1 + upTo(39)).append(' ').append(1 + upTo(oneIn(2) ? 8 : 3));
            if (boxes > 0 && !oneIn(4)) {
                s.append(" under ").append(random.nextInt(boxes));
            }
            s.append(";");
        }
        if (oneIn(2)) {
            s.append("talk ").append(expr(0)).append(oneIn(2) ? ";\n" : " ; ");
        }
        if (oneIn(2)) {
            s.append("falls ").append(expr(0)).append(";");
        }
        return s.length() > 690 ? goodText() : s.toString();
    }

    /** A good text with a few pieces put in, taken out or cut off. */
    private String spoiltText() {
        List<String> pieces = new ArrayList<>();
        java.util.regex.Matcher m = java.util.regex.Pattern.compile("[a-z]+|[0-9]+|[ \n]+|(?s:.)").matcher(goodText());
        while (m.find()) {
            pieces.add(m.group());
        }
        for (int i = 1 + upTo(2); i > 0 && !pieces.isEmpty(); i--) {
            int at = random.nextInt(pieces.size());
            switch (random.nextInt(4)) {
                case 0 -> pieces.remove(at);
                case 1 -> pieces.set(at, PIECES[random.nextInt(PIECES.length)]);
                case 2 -> pieces.add(at, " " + PIECES[random.nextInt(PIECES.length)] + " ");
                default -> pieces.addAll(at, new ArrayList<>(pieces.subList(at, Math.min(pieces.size(), at + 1 + upTo(11)))));
            }
        }
        String text = String.join("", pieces);
        if (oneIn(5)) {
            text = text.substring(0, upTo(text.length()));
        }
        return text.length() > 700 ? spoiltText() : text;
    }

    private String anyText() {
        if (oneIn(3)) {
            return goodText();
        }
        if (oneIn(8)) {
            String nots = "not ".repeat(upTo(8));
            int deep = upTo(8);
            String part = PIECES[random.nextInt(PIECES.length)];
            return "talk " + nots + "(".repeat(deep) + part + ")".repeat(deep) + ";";
        }
        if (oneIn(12)) {
            return "bearer 1 1;".repeat(upTo(10)) + "box 1 0;".repeat(upTo(8)) + "towns 3;".repeat(upTo(2));
        }
        if (oneIn(12)) {
            StringBuilder s = new StringBuilder("towns 8;");
            for (int a = 0; a < 7; a++) {
                for (int b = a + 1; b < 8; b += 1 + upTo(1)) {
                    s.append("road ").append(a).append(' ').append(b).append(" 1;");
                }
            }
            return s.toString();
        }
        return spoiltText();
    }

    private static int[][] feeds(String text) {
        int[][] feeds = new int[(text.length() + 19) / 20][5];
        for (int i = 0; i < feeds.length * 20; i++) {
            int sign = i < text.length() ? text.charAt(i) & 255 : 32;
            feeds[i / 20][i % 20 / 4] |= sign << 24 - 8 * (i % 4);
        }
        return feeds;
    }

    private void due(String run, String call, Object got, Object want) {
        if (!got.equals(want)) {
            wrong++;
            if (wrong < 30) {
                System.out.println(run + ": " + call + " answered " + got + ", due is " + want);
            }
        }
    }

    private boolean tell(BoxBearers x, PlainModel y, String text) {
        for (int[] f : feeds(text)) {
            due(text, "feed", x.feed(f[0], f[1], f[2], f[3], f[4]), y.feed(f[0], f[1], f[2], f[3], f[4]));
        }
        int want = y.land(text.length());
        due(text, "land", x.land(text.length()), want);
        due(text, "fault", x.fault(), y.fault());
        return want == 0;
    }

    private void compareTexts() {
        int[] codes = new int[6];
        for (int i = 0; i < TEXTS; i++) {
            BoxBearers x = new BoxBearers();
            PlainModel y = new PlainModel();
            String text = anyText();
            tell(x, y, text);
            for (int[] f : feeds(text)) {
                y.feed(f[0], f[1], f[2], f[3], f[4]);
            }
            codes[y.land(text.length())]++;
            for (int what = 0; what < 15; what++) {
                if (what != 12) {
                    due(text, "count " + what, x.count(what), y.count(what));
                }
            }
        }
        for (int code = 0; code <= 5; code++) {
            if (codes[code] < 100) {
                wrong++;
                System.out.println("too few texts of fault " + code + ": " + codes[code]);
            }
        }
    }

    private static List<Method> face() {
        List<Method> list = new ArrayList<>();
        for (Method m : BoxBearers.class.getDeclaredMethods()) {
            String name = m.getName();
            if (Modifier.isPublic(m.getModifiers()) && !name.equals("feed") && !name.equals("land")) {
                list.add(m);
            }
        }
        list.sort(Comparator.comparing(Method::getName));
        return list;
    }

    private static Object answer(Object on, Method m, Object[] args) throws Exception {
        try {
            Object got = on.getClass().getMethod(m.getName(), m.getParameterTypes()).invoke(on, args);
            return got == null ? "void" : got;
        } catch (InvocationTargetException e) {
            return e.getCause().getClass().getName();
        }
    }

    private int anyArg(String name, int i) {
        if (oneIn(40)) {
            int[] odd = {-1, -2, 99, Integer.MAX_VALUE, Integer.MIN_VALUE, 41, 40, 100, 1000};
            return odd[random.nextInt(odd.length)];
        }
        if (name.equals("years") && i == 0) {
            return random.nextInt();
        }
        boolean days = i == 1 && (name.equals("then") || name.equals("who") || name.equals("calls") || name.equals("years"));
        if (days || i == 0 && (name.equals("later") || name.equals("weariest") || name.equals("total"))) {
            return upTo(41);
        }
        if (name.equals("slander") && i == 1 || name.equals("praise") && i == 1 || name.equals("days")) {
            return upTo(oneIn(3) ? 31 : 8);
        }
        if (name.equals("rain")) {
            return upTo(i == 2 ? 10 : 5);
        }
        if (name.equals("toBear")) {
            return upTo(4) - 1;
        }
        return upTo(name.equals("count") ? 15 : 4);
    }

    private void compareRuns() throws Exception {
        List<Method> face = face();
        for (int i = 0; i < LANDS; i++) {
            BoxBearers x = new BoxBearers();
            PlainModel y = new PlainModel();
            String text = goodText();
            boolean told = oneIn(30) || tell(x, y, text);
            StringBuilder run = new StringBuilder("'").append(text).append("' ").append(told);
            for (int k = 0; k < 120; k++) {
                Method m = face.get(random.nextInt(face.size()));
                Object[] args = new Object[m.getParameterCount()];
                for (int p = 0; p < args.length; p++) {
                    args[p] = anyArg(m.getName(), p);
                }
                boolean see = m.getName().equals("see");
                if (see && !oneIn(4)) {
                    // What could really be seen, so that something fits.
                    args[0] = upTo(Math.max(0, y.count(2) - 1));
                    args[1] = upTo(12);
                    args[2] = y.count(2) == 0 ? 5 : y.then((Integer) args[0], (Integer) args[1], 0);
                }
                String call = m.getName() + java.util.Arrays.toString(args);
                run.append(' ').append(call);
                due(run.toString(), call, answer(x, m, args), answer(y, m, args));
                if (oneIn(60)) {
                    tell(x, y, anyText());
                    run.append(" (another text)");
                }
            }
        }
    }
}
