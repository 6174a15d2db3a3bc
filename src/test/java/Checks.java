import java.nio.file.Files;
import java.nio.file.Path;
import java.util.ArrayList;
import java.util.List;
import java.util.NoSuchElementException;

/** What the tests share: answers that are due, texts that are fed, sentences of the document that are tested. */
class Checks {
    static final String TRIO = "towns 3;road 0 1 2;road 1 2 5;road 0 2 9;box 20 0 1;box 30 2;"
        + "bearer 15 5 under 0;bearer 10 7 under 0;bearer 40 1;";
    static final int NONE = -1;
    static final int NO_SUCH = -1001;
    static final int ILLEGAL = -1002;
    private static final int OTHER = -1003;
    private static final int MOST_LINES = 40;

    private static final List<String> SENTENCES = new ArrayList<>();
    private static int wrong = 0;
    private static String sentence = "";

    interface Call {
        int answer();
    }

    static void due(String what, int got, int want) {
        if (got != want) {
            wrong++;
            if (wrong <= MOST_LINES) {
                System.out.println(sentence + ": " + what + " answered " + got + ", due is " + want);
            }
        }
    }

    static void due(String what, boolean got, boolean want) {
        due(what, got ? 1 : 0, want ? 1 : 0);
    }

    static void dueThrow(String what, Call call, int want) {
        int got;
        try {
            got = call.answer();
        } catch (NoSuchElementException e) {
            got = e.getClass() == NoSuchElementException.class ? NO_SUCH : OTHER;
        } catch (IllegalArgumentException e) {
            got = e.getClass() == IllegalArgumentException.class ? ILLEGAL : OTHER;
        }
        due(what, got, want);
    }

    /** No such number on either side of what there is, nor far away from it. */
    static void noSuch(String what, java.util.function.IntUnaryOperator call, int many) {
        for (int number : new int[] {-1, -2, many, many + 1, 99, Integer.MIN_VALUE, Integer.MAX_VALUE}) {
            dueThrow(what + " " + number, () -> call.applyAsInt(number), NO_SUCH);
        }
    }

    /** Numbers just outside of a range, and far away from it. */
    static void illegal(String what, java.util.function.IntUnaryOperator call, int least, int most) {
        for (int number : new int[] {least - 1, most + 1, Integer.MIN_VALUE, Integer.MAX_VALUE}) {
            dueThrow(what + " " + number, () -> call.applyAsInt(number), ILLEGAL);
        }
    }

    static void feedText(BoxBearers x, String text) {
        for (int from = 0; from < text.length(); from += 20) {
            int[] f = new int[5];
            for (int i = 0; i < 20; i++) {
                int sign = from + i < text.length() ? text.charAt(from + i) : 32;
                f[i / 4] = f[i / 4] << 8 | sign;
            }
            x.feed(f[0], f[1], f[2], f[3], f[4]);
        }
    }

    static int tell(BoxBearers x, String text) {
        feedText(x, text);
        return x.land(text.length());
    }

    static BoxBearers told(String text) {
        BoxBearers x = new BoxBearers();
        due("land '" + text + "'", tell(x, text), 0);
        return x;
    }

    static void faultOf(String text, int code, int place) {
        BoxBearers x = new BoxBearers();
        due("land '" + text + "'", tell(x, text), code);
        due("fault of '" + text + "'", x.fault(), place);
    }

    static void noFault(String text) {
        faultOf(text, 0, NONE);
    }

    /** What a rule gives, from -9 to 9: seen by a box of weight 50 in town 6, with a might of 55 and a lean of 3. */
    static void gives(String expr, int want) {
        BoxBearers x = told("towns 8;box 50 6 2;bearer 30 4 under 0;bearer 25 7 under 0;talk " + expr + ";falls 0;");
        due("talk " + expr, x.then(0, 1, 0) - 50, want);
    }

    /** How it is now, as one number. */
    static int pictureOf(BoxBearers x) {
        int picture = x.weighed(0);
        for (int what = 4; what < 12; what++) {
            picture = picture * 31 + x.count(what);
        }
        for (int box = 0; box < x.count(2); box++) {
            for (int what = 0; what < 3; what++) {
                picture = picture * 31 + x.box(box, what);
            }
        }
        for (int bearer = 0; bearer < x.count(3); bearer++) {
            picture = (picture * 31 + x.bearer(bearer, 2)) * 31 + x.bearer(bearer, 3);
        }
        return picture;
    }

    /** What it answers to every question, of few boxes, bearers and towns. */
    static String answersOf(BoxBearers x) {
        StringBuilder all = new StringBuilder();
        for (int what = 0; what < 12; what++) {
            all.append(x.count(what)).append(' ');
        }
        for (int what = 0; what < 3; what++) {
            all.append(x.weighed(what)).append(' ').append(x.years(7, 40, what)).append(' ');
        }
        for (int what = 0; what < 2; what++) {
            all.append(x.look(what)).append(' ').append(x.idle(what)).append(' ').append(x.later(9, what)).append(' ');
        }
        all.append(x.toBear(NONE)).append(' ').append(x.weariest(9)).append(' ').append(x.total(9)).append(" boxes ");
        for (int box = 0; box < x.count(2); box++) {
            addBox(all, x, box);
        }
        for (int bearer = 0; bearer < x.count(3); bearer++) {
            for (int what = 0; what < 6; what++) {
                all.append(x.bearer(bearer, what)).append(' ');
            }
            all.append(x.who(bearer, 9, 0)).append(' ').append(x.who(bearer, 9, 1)).append(" next ");
        }
        for (int town = 0; town < x.count(0); town++) {
            all.append(x.calls(town, 9)).append(' ').append(x.nearest(town)).append(' ').append(x.onRoutes(town)).append(' ');
            all.append(x.reach(town)).append(' ').append(x.way(0, town, 0)).append(' ').append(x.way(town, 0, 1)).append(" next ");
        }
        return all.toString();
    }

    private static void addBox(StringBuilder all, BoxBearers x, int box) {
        for (int what = 0; what < 7; what++) {
            all.append(x.box(box, what)).append(' ');
        }
        for (int what = 0; what < 4; what++) {
            all.append(x.then(box, 9, what)).append(' ');
        }
        all.append(x.fallen(box)).append(' ').append(x.rests(box)).append(' ').append(x.toBear(box)).append(' ');
        all.append(x.crew(box)).append(' ').append(x.toSlander(box)).append(' ').append(x.toWait(box)).append(' ');
        all.append(x.rain(box, 3, 5)).append(' ').append(x.alone(box)).append(" next ");
    }

    /** A call that is refused: its answer, one more of a STATUS (0 to 2, or NONE), and nothing else is changed. */
    static void refused(String what, BoxBearers x, Call call, int want, int status) {
        int before = pictureOf(x);
        int[] counts = {x.count(12), x.count(13), x.count(14)};
        dueThrow(what, call, want);
        due("all stays by " + what, pictureOf(x), before);
        for (int i = 0; i < 3; i++) {
            due("STATUS " + i + " by " + what, x.count(12 + i) - counts[i], i == status ? 1 : 0);
        }
    }

    /** A test of its own for a sentence of the document, which is quoted. */
    static void sentence(String quote, Runnable test) {
        SENTENCES.add(quote);
        sentence = quote;
        try {
            test.run();
        } catch (RuntimeException e) {
            wrong++;
            System.out.println(sentence + ": threw " + e);
        }
    }

    /** Tells what is quoted but no longer stands in the document: that is for a reader, and no failure of the class. */
    private static void checkQuotes(String[] args) {
        try {
            String document = Files.readString(Path.of(args[1]));
            for (String quote : SENTENCES) {
                if (!document.contains(quote)) {
                    System.out.println("not in the document: " + quote);
                }
            }
        } catch (java.io.IOException e) {
            System.out.println("the document can't be read");
        }
    }

    static void end(String name, String[] args) {
        if (args.length > 1) {
            checkQuotes(args);
        }
        System.out.println(name + ": " + (wrong == 0 ? "all answers are as due" : wrong + " answers are not as due"));
        if (wrong != 0) {
            System.exit(1);
        }
    }
}
