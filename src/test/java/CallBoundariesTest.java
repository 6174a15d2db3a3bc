/** The boundary cases of the document's promises 1 to 43: what each call refuses or throws, in which order, and what stays. */
public final class CallBoundariesTest extends Checks {
    private static final String FULL = "towns 8;road 0 1 9;road 0 2 9;road 0 3 9;road 0 4 9;road 0 5 9;road 0 6 9;road 0 7 9;"
        + "road 1 2 9;road 1 3 9;road 1 4 9;road 1 5 9;road 1 6 9;road 1 7 9;road 2 3 9;"
        + "box 99 0 1 2 3 4 5;".repeat(6) + "bearer 40 9 under 5;".repeat(6) + "bearer 40 9;".repeat(2);

    private static int statusOf(BoxBearers x) {
        return x.count(12) * 10000 + x.count(13) * 100 + x.count(14);
    }

    private static void manyCalls() {
        // Told by 4 calls of feed() and one of land().
        BoxBearers x = told("box 44 0 1;bearer 40 1 under 0;bearer 40 1 under 0;talk 0;falls 0;");
        for (int call = 6; call <= 511; call++) {
            int day = call / 2 - 2;
            due("call " + call, call % 2 == 0 ? x.days(1) : x.box(0, 1), call % 2 == 0 ? day : day % 2);
        }
        due("the 512th call", x.undo(), 39);
    }

    private static void none() {
        due("NONE", BoxBearers.NONE, -1);
    }

    private static void newObject() {
        BoxBearers x = new BoxBearers();
        int[] want = {4, 0, 0, 0, 0, 0, 0, 0, 0, 0, 0, 0, 0, 0, 0};
        for (int what = 0; what < want.length; what++) {
            due("count " + what, x.count(what), want[what]);
        }
        noSuch("box", box -> x.box(box, 0), 0);
        noSuch("bearer", bearer -> x.bearer(bearer, 0), 0);
        noSuch("town", town -> x.reach(town), 4);
        due("no road", x.way(0, 3, 0), NONE);
        due("fault", x.fault(), NONE);
        due("undo", x.undo(), NONE);
        due("restore", x.restore(), false);
        due("land of nothing", x.land(0), 0);
    }

    private static void feed() {
        BoxBearers x = new BoxBearers();
        for (int i = 1; i <= 35; i++) {
            due("feed " + i, x.feed(0, 0, 0, 0, 0), 20 * i);
        }
        due("more than 700", x.feed(1, 1, 1, 1, 1), NONE);
        due("none come", x.count(11), 700);
        due("again", x.feed(1, 1, 1, 1, 1), NONE);
        due("not refused as a text", statusOf(x), 0);
        due("the 700 are there", x.land(700), 1);
        due("room again", x.feed(0, 0, 0, 0, 0), 20);
        BoxBearers y = new BoxBearers();
        y.feed(0x746f776e, 0x7320353b, 0x626f7820, 0x31203420, 0x3b202020);
        y.feed(0x62656172, 0x65722031, 0x20313b7f, -1, Integer.MIN_VALUE);
        due("the highest first, one behind the other", y.land(31), 0);
        due("towns", y.count(0), 5);
        due("box", y.box(0, 1), 4);
        due("bearer", y.count(3), 1);
    }

    private static void feedSigns() {
        BoxBearers x = new BoxBearers();
        for (int shift = 24; shift >= 0; shift -= 8) {
            for (int place = 0; place < 5; place++) {
                int[] f = {0x20202020, 0x20202020, 0x20202020, 0x20202020, 0x20202020};
                f[place] ^= (0x20 ^ 0xff) << shift;
                x.feed(f[0], f[1], f[2], f[3], f[4]);
                x.land(20);
                due("a byte of 255 at " + shift + " of " + place, x.fault(), place * 4 + 3 - shift / 8);
            }
        }
    }

    private static void landAnew() {
        BoxBearers x = told(TRIO);
        x.days(2);
        x.see(0, 0, 5);
        x.image();
        x.days(0);
        feedText(x, "towns 2;box 7 1;bearer 3 3;");
        due("the tape's first n", x.land(16), 0);
        int[] want = {2, 0, 1, 0, 0, 0, 0, 7, 0, 0, 0, 0, 0, 1, 0};
        for (int what = 0; what < want.length; what++) {
            due("count " + what, x.count(what), want[what]);
        }
        due("the image is gone", x.restore(), false);
        due("ACTS are gone", x.undo(), NONE);
        due("what is SEEN is gone", x.weighed(0), 98);
        dueThrow("towns are gone", () -> x.reach(2), NO_SUCH);
        due("nothing: all anew too", x.land(0), 0);
        due("4 towns", x.count(0) * 10 + x.count(2), 40);
        due("told", tell(x, "box 9 0;bearer 20 1 under 0;bearer 20 9 under 0;talk 5;falls 0;"), 0);
        due("by talk, not by lean", x.then(0, 1, 0), 14);
        due("rules are gone", tell(x, "box 9 0;bearer 20 1 under 0;bearer 20 9 under 0;"), 0);
        due("by 1 more, and lean", x.then(0, 1, 0), 5);
    }

    /** Nothing of a land that was full is left in one that has little, nor of a text with a fault. */
    private static void littleBehindMuch() {
        String much = FULL + "talk weight+9;falls not weight;";
        String[] little = {"", "box 20 0;bearer 10 1;bearer 10 1;", "box 20 1 0;bearer 12 2;talk 0-3;falls hands=0;",
            "towns 2;road 0 1 1;", "road 0 1 1;road 0 2 3;box 7 2 3;box 3 3;bearer 9 9 under 1;bearer 12 9 under 0;",
            "bearer 1 9;", "box 9 3;falls weight<4;", "box 9 0;box 12 1;bearer 12 1;bearer 20 3;bearer 9 1;bearer 9 1;talk 2;"};
        for (String text : little) {
            String fresh = answersOf(told(text));
            BoxBearers x = told(much);
            x.toBear(NONE);
            x.look(0);
            x.days(2);
            due("land '" + text + "' behind much", tell(x, text), 0);
            due("like a fresh one: " + text, answersOf(x).equals(fresh), true);
            BoxBearers y = told("");
            tell(y, much + "x");
            due("land '" + text + "' behind a fault", tell(y, text), 0);
            due("like one without a fault: " + text, answersOf(y).equals(fresh), true);
        }
        BoxBearers z = told("box 50 0;talk 2;falls 0;");
        tell(z, "box 50 0;talk 9;talk 9;");
        due("land", tell(z, "box 50 0;falls day=2;talk 3;"), 0);
        due("its own talk", z.then(0, 1, 0), 53);
        due("its own falls", z.fallen(0), 3);
    }

    private static void landWithFault() {
        BoxBearers x = told(TRIO + "talk 2;falls day=5;");
        x.days(2);
        x.see(0, 0, 5);
        x.image();
        x.praise(0, 1);
        int before = pictureOf(x);
        int then = x.then(0, 7, 0);
        String[] texts = {"towns 8;box 1 0;bearer 1 1;talk 9;falls 1;x", "box 5 0;box 5 9;", "road 0 1 1;road 1 0 1;", "talk 1;talk 1;"};
        int[] codes = {1, 3, 4, 5};
        for (int i = 0; i < texts.length; i++) {
            due(texts[i], tell(x, texts[i]), codes[i]);
            due("all stays", pictureOf(x), before);
            due("rules stay", x.then(0, 7, 0), then);
            due("refused", x.count(12), i + 1);
            due("the tape is empty", x.count(11), 0);
        }
        due("ACTS stay", x.undo(), 1);
        due("the image stays", x.restore(), true);
        due("as it was", x.count(4) * 10 + x.count(10), 21);
    }

    private static void landThrows() {
        BoxBearers x = told(TRIO);
        tell(x, "box;");
        feedText(x, "towns 5;            ");
        illegal("n", n -> x.land(n), 0, 20);
        due("the tape stays", x.count(11), 20);
        due("the fault stays", x.fault(), 3);
        due("all stays", x.count(0), 3);
        due("not refused", statusOf(x), 10000);
        due("all of it", x.land(20), 0);
        due("towns", x.count(0), 5);
        dueThrow("it is empty then", () -> x.land(1), ILLEGAL);
        due("the fault that isn't stays so", x.fault(), NONE);
        due("0 of an empty tape", x.land(0), 0);
    }

    private static void faultPlace() {
        BoxBearers x = new BoxBearers();
        due("none yet", x.fault(), NONE);
        tell(x, "x");
        due("0", x.fault(), 0);
        tell(x, "towns");
        due("the latest", x.fault(), 5);
        tell(x, "towns 3;");
        due("none", x.fault(), NONE);
        tell(x, " towns 9;");
        due("7", x.fault(), 7);
        x.days(1);
        x.land(0);
        due("none without", x.fault(), NONE);
    }

    private static void count() {
        BoxBearers x = told(TRIO);
        noSuch("count", what -> x.count(what), 15);
        due("14 is the last", x.count(14), 0);
        due("0 is the first", x.count(0), 3);
        due("borne as bits", told("box 1 0;box 9 0;bearer 9 1 under 1;").count(5), 2);
    }

    /** As many of all as there can be: no question goes beyond the last one. */
    private static void fullCounts() {
        BoxBearers x = told(FULL);
        for (int i = 0; i < 8; i++) {
            x.see(5, 0, 99);
        }
        for (int i = 0; i < 5; i++) {
            x.praise(0, 1);
        }
        int[] want = {8, 14, 6, 8, 0, 32, 192, 594, 28, 5, 8, 0, 0, 0, 0};
        for (int what = 0; what < want.length; what++) {
            due("count " + what, x.count(what), want[what]);
        }
        due("all questions of many", answersOf(x).length() > 0, true);
        due("all wet", told(FULL).rain(5, 5, 10), 100000);
        due("all wet, and the first one isn't borne", told(FULL).rain(0, 5, 10), 0);
        due("crew", told(FULL).crew(0), 7);
        due("not all can be borne", told(FULL).toBear(NONE), NONE);
        due("most load", told(FULL).bearer(5, 5), 16);
    }

    private static void box() {
        BoxBearers x = told(TRIO);
        noSuch("box", box -> x.box(box, 0), 2);
        noSuch("what", what -> x.box(1, what), 7);
        due("the last", x.box(1, 0), 30);
        due("6 is the last", x.box(0, 6), 3);
        due("a TOWN that is twice on it", told("box 5 0 1 0;").box(0, 5), 3);
    }

    private static void bearer() {
        BoxBearers x = told(TRIO);
        noSuch("bearer", bearer -> x.bearer(bearer, 0), 3);
        noSuch("what", what -> x.bearer(2, what), 6);
        due("the last", x.bearer(2, 0), 40);
        due("under none", x.bearer(2, 2), NONE);
        due("5 is the last", x.bearer(0, 5), 10);
    }

    private static void days() {
        for (int many : new int[] {0, -1, 21, 1000, Integer.MAX_VALUE, Integer.MIN_VALUE}) {
            BoxBearers x = told(TRIO);
            refused("days " + many, x, () -> x.days(many), NONE, 1);
        }
        BoxBearers x = told("box 50 0;");
        for (int i = 0; i < 49; i++) {
            x.days(20);
        }
        due("980", x.count(4), 980);
        refused("1000", x, () -> x.days(20), NONE, 1);
        due("999", x.days(19), 999);
        refused("1000 by 1", x, () -> x.days(1), NONE, 1);
        due("back", x.undo(), 39);
        due("998", x.days(18), 998);
        refused("1000 by 2", x, () -> x.days(2), NONE, 1);
        due("999", x.days(1), 999);
    }

    private static void hand() {
        BoxBearers x = told(TRIO);
        due("from none", x.hand(2, 0), NONE);
        due("from the first one", x.hand(2, 1), 0);
        due("from the second one", x.hand(2, 0), 1);
        refused("one is under that one", x, () -> x.hand(2, 0), -2, 1);
        refused("no bearer", x, () -> x.hand(3, 0), NO_SUCH, NONE);
        refused("no box", x, () -> x.hand(0, 2), NO_SUCH, NONE);
        noSuch("bearer", bearer -> x.hand(bearer, 0), 3);
        noSuch("box", box -> x.hand(0, box), 2);
    }

    private static void away() {
        BoxBearers x = told(TRIO);
        due("the BOX", x.away(0), 0);
        refused("one is under none", x, () -> x.away(0), NONE, 1);
        x.hand(0, 1);
        due("the other BOX", x.away(0), 1);
        refused("no bearer", x, () -> x.away(3), NO_SUCH, NONE);
        noSuch("bearer", bearer -> x.away(bearer), 3);
    }

    private static void change() {
        BoxBearers x = told(TRIO + "bearer 7 7;");
        refused("both are under one", x, () -> x.change(0, 1) ? 1 : 0, 0, 1);
        refused("both are under none", x, () -> x.change(2, 3) ? 1 : 0, 0, 1);
        refused("one and the same", x, () -> x.change(1, 1) ? 1 : 0, 0, 1);
        refused("one and the same under none", x, () -> x.change(2, 2) ? 1 : 0, 0, 1);
        due("one under none", x.change(2, 0), true);
        due("the other one under none", x.change(2, 0), true);
        due("acts", x.count(9), 2);
        BoxBearers y = told(TRIO);
        noSuch("bearer", bearer -> y.change(bearer, 0) ? 1 : 0, 3);
        noSuch("other", other -> y.change(0, other) ? 1 : 0, 3);
        due("nothing happened", y.count(9) + y.count(13), 0);
    }

    private static void slander() {
        for (int less : new int[] {0, 31, -1, Integer.MAX_VALUE, Integer.MIN_VALUE}) {
            BoxBearers x = told(TRIO);
            refused("slander by " + less, x, () -> x.slander(1, less), NONE, 1);
        }
        BoxBearers x = told(TRIO);
        due("1", x.slander(1, 1), 29);
        due("30", x.slander(1, 30), 1);
        noSuch("box", box -> x.slander(box, 1), 2);
        noSuch("box, ahead of what is refused", box -> x.slander(box, 31), 2);
        due("acts", x.count(9) * 10 + x.count(13), 20);
    }

    private static void praise() {
        for (int more : new int[] {0, 31, -1, Integer.MAX_VALUE, Integer.MIN_VALUE}) {
            BoxBearers x = told(TRIO);
            refused("praise by " + more, x, () -> x.praise(1, more), NONE, 1);
        }
        BoxBearers x = told(TRIO);
        due("1", x.praise(1, 1), 31);
        due("30", x.praise(1, 30), 61);
        noSuch("box", box -> x.praise(box, 1), 2);
        noSuch("box, ahead of what is refused", box -> x.praise(box, 31), 2);
        due("acts", x.count(9) * 10 + x.count(13), 20);
    }

    private static void undo() {
        BoxBearers x = told(TRIO);
        refused("there is none", x, () -> x.undo(), NONE, NONE);
        x.hand(2, 1);
        x.days(20);
        due("1 left", x.undo(), 1);
        due("0 left", x.undo(), 0);
        refused("there is none any more", x, () -> x.undo(), NONE, NONE);
        x.praise(0, 5);
        x.see(0, 0, 25);
        due("acts anew", x.undo(), 0);
        due("what is SEEN isn't undone", x.count(10), 1);
    }

    private static void then() {
        BoxBearers x = told(TRIO);
        noSuch("box", box -> x.then(box, 0, 0), 2);
        noSuch("what", what -> x.then(1, 0, what), 4);
        noSuch("box ahead of days", box -> x.then(box, 41, 0), 2);
        noSuch("what ahead of days", what -> x.then(1, -1, what), 4);
        for (int what = 0; what < 4; what++) {
            int w = what;
            illegal("days of what " + w, days -> x.then(1, days, w), 0, 40);
        }
    }

    private static void who() {
        BoxBearers x = told(TRIO);
        noSuch("bearer", bearer -> x.who(bearer, 0, 0), 3);
        noSuch("what", what -> x.who(2, 0, what), 2);
        noSuch("bearer ahead of days", bearer -> x.who(bearer, 41, 0), 3);
        noSuch("what ahead of days", what -> x.who(2, -1, what), 2);
        illegal("days of what 0", days -> x.who(2, days, 0), 0, 40);
        illegal("days of what 1", days -> x.who(2, days, 1), 0, 40);
        due("under none", x.who(2, 40, 1), NONE);
    }

    private static void fallen() {
        BoxBearers x = told(TRIO);
        due("none", x.fallen(1), NONE);
        noSuch("box", box -> x.fallen(box), 2);
    }

    private static void rests() {
        BoxBearers x = told("box 1 0;bearer 40 1 under 0;talk 0;");
        due("none", x.rests(0), NONE);
        noSuch("box", box -> x.rests(box), 1);
    }

    private static void meet() {
        BoxBearers x = told(TRIO);
        noSuch("box", box -> x.meet(box, 0), 2);
        noSuch("other", other -> x.meet(0, other), 2);
        noSuch("both are one that there isn't", box -> x.meet(box, box), 2);
        due("both are one", x.meet(0, 0), NONE);
        due("never", x.meet(0, 1), NONE);
    }

    private static void heaviest() {
        due("no boxes", told("bearer 1 1;").later(40, 0), NONE);
        due("one of them", told("box 1 0;").later(40, 0), 0);
        due("no boxes are carried", told("bearer 1 1;").later(40, 1), 0);
    }

    private static void later() {
        BoxBearers x = told(TRIO);
        noSuch("what", what -> x.later(0, what), 2);
        noSuch("what ahead of days", what -> x.later(41, what), 2);
        illegal("days of what 0", days -> x.later(days, 0), 0, 40);
        illegal("days of what 1", days -> x.later(days, 1), 0, 40);
        illegal("days without boxes", days -> new BoxBearers().later(days, 0), 0, 40);
    }

    private static void calls() {
        BoxBearers x = told(TRIO);
        noSuch("town", town -> x.calls(town, 0), 3);
        noSuch("town ahead of days", town -> x.calls(town, 41), 3);
        illegal("days", days -> x.calls(2, days), 0, 40);
        due("the last town", x.calls(2, 0), 2);
    }

    private static void toBear() {
        BoxBearers x = told(TRIO);
        due("NONE: how many", x.toBear(NONE), 3);
        for (int i : new int[] {-2, 2, 3, 99, Integer.MIN_VALUE, Integer.MAX_VALUE}) {
            dueThrow("i " + i, () -> x.toBear(i), NO_SUCH);
        }
        due("none", told("box 1 0;").toBear(NONE), NONE);
        dueThrow("no boxes", () -> new BoxBearers().toBear(0), NO_SUCH);
        due("no boxes need nobody", new BoxBearers().toBear(NONE), 0);
    }

    private static void crew() {
        BoxBearers x = told(TRIO);
        due("as bits", x.crew(1), 4);
        due("none", told("box 99 0;bearer 40 1;").crew(0), NONE);
        noSuch("box", box -> x.crew(box), 2);
    }

    private static void toSlander() {
        BoxBearers x = told(TRIO);
        due("none", x.toSlander(1), NONE);
        noSuch("box", box -> x.toSlander(box), 2);
    }

    private static void toWait() {
        BoxBearers x = told(TRIO);
        due("none", x.toWait(1), NONE);
        noSuch("box", box -> x.toWait(box), 2);
    }

    private static void way() {
        BoxBearers x = told(TRIO);
        noSuch("town", town -> x.way(town, 0, 0), 3);
        noSuch("other", other -> x.way(0, other, 0), 3);
        noSuch("what", what -> x.way(0, 1, what), 3);
        noSuch("what from a TOWN to itself", what -> x.way(0, 0, what), 3);
        noSuch("a TOWN that there isn't to itself", town -> x.way(town, town, 0), 3);
        due("from a TOWN to itself", x.way(2, 2, 0) + x.way(2, 2, 1) + x.way(2, 2, 2), 0);
    }

    private static void see() {
        int[][] rows = {{-1, 5}, {13, 5}, {5, 0}, {5, 100}, {Integer.MAX_VALUE, 5}, {Integer.MIN_VALUE, 5},
            {5, Integer.MAX_VALUE}, {5, Integer.MIN_VALUE}, {-1, 0}};
        for (int[] row : rows) {
            BoxBearers x = told(TRIO);
            x.see(1, 2, 3);
            refused("days " + row[0] + ", weight " + row[1], x, () -> x.see(0, row[0], row[1]), NONE, 2);
        }
        BoxBearers x = told(TRIO);
        noSuch("box, ahead of what is refused", box -> x.see(box, 13, 0), 2);
        for (int i = 1; i <= 8; i++) {
            due("how much is", x.see(1, 0, 30), i);
        }
        refused("there are 8", x, () -> x.see(1, 0, 30), NONE, 2);
        noSuch("box, though there are 8", box -> x.see(box, 0, 30), 2);
        due("a call that throws isn't refused", statusOf(x), 1);
        due("no act", x.count(9), 0);
    }

    private static void forget() {
        BoxBearers x = told(TRIO);
        x.forget();
        due("none was", x.count(10), 0);
        for (int i = 0; i < 8; i++) {
            x.see(0, 0, 99);
        }
        due("not so", x.weighed(2), 0);
        x.forget();
        due("all", x.count(10), 0);
        due("so", x.weighed(2), 1);
        due("room again", x.see(0, 0, 20), 1);
        due("only this one", x.weighed(2), 1);
        due("no act, not refused", x.count(9) + statusOf(x), 0);
    }

    private static void noneWeighed() {
        BoxBearers x = told("box 5 0;box 6 0;talk 0;");
        x.see(0, 0, 5);
        x.see(1, 0, 6);
        due("none", x.weighed(1), NONE);
        due("how many", x.weighed(0), 0);
        due("without", x.weighed(2), 1);
        due("look next at none", x.look(0), NONE);
        due("0", x.look(1), 0);
        due("no boxes", new BoxBearers().weighed(1), NONE);
    }

    private static void weighed() {
        BoxBearers x = told(TRIO);
        noSuch("what", what -> x.weighed(what), 3);
        noSuch("what without boxes", what -> new BoxBearers().weighed(what), 3);
    }

    private static void look() {
        BoxBearers x = told(TRIO);
        noSuch("what", what -> x.look(what), 2);
        noSuch("what without boxes", what -> new BoxBearers().look(what), 2);
    }

    private static void rain() {
        BoxBearers x = told(TRIO);
        noSuch("box", box -> x.rain(box, 1, 0), 2);
        noSuch("box ahead of days", box -> x.rain(box, 0, 0), 2);
        noSuch("box ahead of tenths", box -> x.rain(box, 1, 11), 2);
        illegal("days", days -> x.rain(1, days, 0), 1, 5);
        illegal("tenths", tenths -> x.rain(1, 5, tenths), 0, 10);
    }

    private static void game() {
        BoxBearers x = told(TRIO);
        noSuch("bearer", bearer -> x.game(bearer, 0, 0), 3);
        noSuch("other", other -> x.game(0, other, 0), 3);
        noSuch("what", what -> x.game(0, 1, what), 2);
        noSuch("what, though they aren't under one", what -> x.game(0, 2, what), 2);
        noSuch("what ahead of both being one", what -> x.game(0, 0, what), 2);
        noSuch("both are one that there isn't", bearer -> x.game(bearer, bearer, 0), 3);
        dueThrow("both are one", () -> x.game(0, 0, 0), ILLEGAL);
        dueThrow("both are one under none", () -> x.game(2, 2, 1), ILLEGAL);
    }

    private static void noGame() {
        BoxBearers x = told(TRIO);
        due("how many", x.game(0, 2, 0), NONE);
        due("the first", x.game(0, 2, 1), NONE);
        x.away(0);
        due("both under none: how many", x.game(0, 2, 0), NONE);
        due("both under none: the first", x.game(0, 2, 1), NONE);
    }

    private static void years() {
        BoxBearers x = told(TRIO);
        noSuch("what", what -> x.years(1, 0, what), 3);
        noSuch("what ahead of n", what -> x.years(1, 41, what), 3);
        for (int what = 0; what < 3; what++) {
            int w = what;
            illegal("n of what " + w, n -> x.years(1, n, w), 0, 40);
        }
        illegal("n without boxes", n -> new BoxBearers().years(1, n, 0), 0, 40);
    }

    private static void idle() {
        BoxBearers x = told(TRIO);
        noSuch("what", what -> x.idle(what), 2);
        noSuch("what without bearers", what -> new BoxBearers().idle(what), 2);
    }

    private static void strongest() {
        BoxBearers x = told("box 1 0;bearer 20 1 under 0;bearer 19 2;talk 0;");
        x.days(1);
        x.away(0);
        due("by might", x.idle(0), 1);
        x.hand(1, 0);
        due("of the idle ones", x.idle(0), 0);
        due("the tallest of the idle ones", x.idle(1), 0);
    }

    private static void nearest() {
        BoxBearers x = told(TRIO);
        due("none", told("box 1 0;").nearest(1), NONE);
        noSuch("town", town -> x.nearest(town), 3);
        due("the last town", x.nearest(2), 1);
    }

    private static void alone() {
        BoxBearers x = told(TRIO);
        due("as bits", x.alone(0), 4);
        noSuch("box", box -> x.alone(box), 2);
    }

    private static void weariest() {
        BoxBearers x = told(TRIO);
        due("no bearers", told("box 1 0;").weariest(40), NONE);
        illegal("days", days -> x.weariest(days), 0, 40);
        illegal("days without bearers", days -> new BoxBearers().weariest(days), 0, 40);
    }

    private static void onRoutes() {
        BoxBearers x = told(TRIO);
        due("as bits", x.onRoutes(2), 2);
        noSuch("town", town -> x.onRoutes(town), 3);
    }

    private static void reach() {
        BoxBearers x = told("towns 8;");
        due("as bits", x.reach(7), 128);
        noSuch("town", town -> x.reach(town), 8);
        BoxBearers y = told("towns 2;");
        noSuch("of 2", town -> y.reach(town), 2);
    }

    private static void total() {
        BoxBearers x = told(TRIO);
        due("0", x.total(0), 50);
        illegal("days", days -> x.total(days), 0, 40);
        illegal("days without boxes", days -> new BoxBearers().total(days), 0, 40);
    }

    private static void ahead() {
        BoxBearers x = told(TRIO);
        noSuch("box", box -> x.ahead(box, 0), 2);
        noSuch("town", town -> x.ahead(0, town), 3);
        due("not on its ROUTE", x.ahead(1, 0), NONE);
    }

    private static void image() {
        BoxBearers x = told("box 10 0 1 2;box 50 3;bearer 40 1 under 0;bearer 9 1;talk 1;falls 0;");
        x.days(3);
        x.praise(0, 5);
        x.see(0, 12, 7);
        int first = pictureOf(x);
        x.image();
        due("nothing is changed by it", pictureOf(x), first);
        x.undo();
        x.hand(1, 1);
        x.days(4);
        x.forget();
        x.see(1, 0, 30);
        x.see(1, 0, 99);
        int second = pictureOf(x);
        due("restored", x.restore(), true);
        due("as it was", pictureOf(x), first);
        due("its ACTS", x.undo(), 1);
        due("without the praise", x.box(0, 0), 13);
        due("its ACTS", x.undo(), 0);
        due("at first", x.box(0, 0) * 10 + x.box(0, 1), 100);
        due("again", x.restore(), true);
        x.undo();
        x.hand(1, 1);
        x.days(4);
        x.forget();
        x.see(1, 0, 30);
        x.see(1, 0, 99);
        x.image();
        x.slander(0, 30);
        due("restored", x.restore(), true);
        due("in place of the first one", pictureOf(x), second);
    }

    private static void restore() {
        BoxBearers x = told(TRIO);
        due("there is none", x.restore(), false);
        x.days(1);
        int before = pictureOf(x);
        due("there is none", x.restore(), false);
        due("nothing changes", pictureOf(x), before);
        x.image();
        x.days(0);
        x.see(0, 13, 0);
        x.feed(0, 0, 0, 0, 0);
        due("restored", x.restore(), true);
        due("STATUS stays", statusOf(x), 101);
        due("the tape stays", x.count(11), 20);
        x.land(0);
        due("gone with the land", x.restore(), false);
        BoxBearers y = new BoxBearers();
        y.image();
        y.days(5);
        due("of a new object", y.restore(), true);
        due("day 0", y.count(4) + y.count(9), 0);
        BoxBearers z = told("box 1 0;");
        for (int i = 0; i < 40; i++) {
            z.praise(0, 1);
        }
        z.image();
        for (int i = 0; i < 40; i++) {
            z.slander(0, 1);
        }
        z.restore();
        due("all 40 ACTS", z.count(9), 40);
        for (int left = 39; left >= 0; left--) {
            due("left", z.undo(), left);
            due("undone to what it was", z.box(0, 0), 1 + left);
        }
    }

    private static void seenInTheImage() {
        BoxBearers x = told("box 20 0;box 40 0;talk 1;falls 0;");
        x.see(1, 2, 52);
        x.see(1, 0, 50);
        x.image();
        x.forget();
        x.see(0, 1, 31);
        x.see(0, 0, 30);
        x.see(0, 0, 30);
        due("of box 0", x.weighed(1), 30);
        x.restore();
        due("of box 1 again", x.weighed(1), 150);
        due("how much", x.count(10), 2);
    }

    private static void firstPromises() {
        sentence("An object is used for at most 512 calls after it has been made", CallBoundariesTest::manyCalls);
        sentence("The constants: `NONE = -1`: There is none.", CallBoundariesTest::none);
        sentence("`BoxBearers()`: 4 TOWNS, no ROADS, BOXES, BEARERS.", CallBoundariesTest::newObject);
        sentence("how many it has; NONE, and none come, if it would have more than 700.", CallBoundariesTest::feed);
        sentence("Twenty bytes come behind the tape, of each number the highest first", CallBoundariesTest::feedSigns);
        sentence("The tape's first n bytes (it is empty then) are a LAND, all anew", CallBoundariesTest::landAnew);
        sentence("are a LAND, all anew", CallBoundariesTest::littleBehindMuch);
        sentence("0, or the FAULT (all stays). ACTS, what is SEEN, the image are gone (STATUS stays).",
            CallBoundariesTest::landWithFault);
        sentence("IllegalArgumentException: the tape has not so many, n below 0 (nothing changes).", CallBoundariesTest::landThrows);
        sentence("The place of the latest land()'s FAULT; NONE without.", CallBoundariesTest::faultPlace);
        sentence("0 TOWNS, 1 ROADS, 2 BOXES, 3 BEARERS, 4 the DAY, 5 BOXES that are BORNE, 6 IDLE (bits), 7 WEIGHT of all, "
            + "8 PAIRS, 9 ACTS that are kept, 10 SEEN, 11 bytes of the tape", CallBoundariesTest::fullCounts);
        sentence("12 to 14 STATUS 0 to 2. NoSuchElementException: another what.", CallBoundariesTest::count);
        sentence("6 NEEDED (bits). NoSuchElementException: no such BOX (as everywhere), what.", CallBoundariesTest::box);
        sentence("5 LOAD. NoSuchElementException: no such BEARER (as everywhere), what.", CallBoundariesTest::bearer);
        sentence("DAYS go by: the DAY. NONE (STATUS 1): not 1 to 20, it would be above 999.", CallBoundariesTest::days);
        sentence("A HAND under a BOX: the BOX under which one was (NONE). -2 (STATUS 1): one is under that one.",
            CallBoundariesTest::hand);
        sentence("The HAND AWAY: the BOX. NONE (STATUS 1): one is under none.", CallBoundariesTest::away);
        sentence("Two CHANGE: true. False (STATUS 1): both are under one BOX, or none.", CallBoundariesTest::change);
        sentence("SLANDER: WEIGHT then. NONE (STATUS 1): not 1 to 30.", CallBoundariesTest::slander);
        sentence("PRAISE: WEIGHT then. NONE (STATUS 1): not 1 to 30.", CallBoundariesTest::praise);
        sentence("The last ACT is UNDONE: how many are left. NONE: there is none.", CallBoundariesTest::undo);
        sentence("whether BORNE (3). NoSuchElementException: also another what. IllegalArgumentException (behind that): not 0 to 40.",
            CallBoundariesTest::then);
        sentence("under which BOX (1; NONE). NoSuchElementException: also another what. IllegalArgumentException (behind that): "
            + "not 0 to 40.", CallBoundariesTest::who);
        sentence("FALLEN; NONE: none.", CallBoundariesTest::fallen);
        sentence("RESTS; NONE: none.", CallBoundariesTest::rests);
        sentence("MEET; NONE: none, both are one.", CallBoundariesTest::meet);
        sentence("HEAVIEST (what 0; NONE: no BOXES)", CallBoundariesTest::heaviest);
        sentence("CARRIED (1). NoSuchElementException: another what. IllegalArgumentException (behind that): not 0 to 40.",
            CallBoundariesTest::later);
        sentence("NoSuchElementException: no such TOWN (as everywhere). IllegalArgumentException (behind that): not 0 to 40.",
            CallBoundariesTest::calls);
        sentence("how many (i NONE), who is under the i-th BOX (bits); NONE: none. NoSuchElementException: no such BOX.",
            CallBoundariesTest::toBear);
    }

    private static void lastPromises() {
        sentence("A CREW, as bits; NONE: none.", CallBoundariesTest::crew);
        sentence("TO SLANDER; NONE: none.", CallBoundariesTest::toSlander);
        sentence("TO WAIT; NONE: none.", CallBoundariesTest::toWait);
        sentence("STEEPEST (2; 0 from a TOWN to itself, as the others); NONE: none. NoSuchElementException: also another what.",
            CallBoundariesTest::way);
        sentence("SEEN: how much is. NONE (STATUS 2): there are 8, not 0 to 12, not 1 to 99. NoSuchElementException (ahead): "
            + "no such BOX.", CallBoundariesTest::see);
        sentence("All that is SEEN is forgotten.", CallBoundariesTest::forget);
        sentence("WEIGHED: how many (what 0), the first (1; NONE: none)", CallBoundariesTest::noneWeighed);
        sentence("whether without (2). NoSuchElementException: another what.", CallBoundariesTest::weighed);
        sentence("how many (1; 0: none). NoSuchElementException: another what.", CallBoundariesTest::look);
        sentence("RAIN. IllegalArgumentException (behind NoSuchElementException): days, tenths.", CallBoundariesTest::rain);
        sentence("NoSuchElementException: also another what. IllegalArgumentException (behind that): both are one.",
            CallBoundariesTest::game);
        sentence("NONE for both, if they aren't under one BOX.", CallBoundariesTest::noGame);
        sentence("how many BORNE (2). NoSuchElementException: another what. IllegalArgumentException (behind that): n.",
            CallBoundariesTest::years);
        sentence("TALLEST (1); NONE: none. NoSuchElementException: another what.", CallBoundariesTest::idle);
        sentence("STRONGEST of the IDLE ones by MIGHT (what 0)", CallBoundariesTest::strongest);
        sentence("NEAREST; NONE: none.", CallBoundariesTest::nearest);
        sentence("AHEAD; NONE: it isn't on its ROUTE.", CallBoundariesTest::ahead);
        sentence("ALONE, as bits.", CallBoundariesTest::alone);
        sentence("WEARIEST; NONE: no BEARERS. IllegalArgumentException: not 0 to 40.", CallBoundariesTest::weariest);
        sentence("ON ROUTES, as bits.", CallBoundariesTest::onRoutes);
        sentence("REACH, as bits.", CallBoundariesTest::reach);
        sentence("TOTAL. IllegalArgumentException: not 0 to 40.", CallBoundariesTest::total);
        sentence("ACTS and what is SEEN are kept as an image, in place of another one.", CallBoundariesTest::image);
        sentence("what is SEEN are kept as an image", CallBoundariesTest::seenInTheImage);
        sentence("They are as the image again: true. False: there is none.", CallBoundariesTest::restore);
    }

    public static void main(String[] args) {
        firstPromises();
        lastPromises();
        end("CallBoundariesTest", args);
    }
}
