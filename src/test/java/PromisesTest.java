/** For each promise of the document some calls with the answers that are due, worked out by hand. */
public final class PromisesTest extends Checks {
    private static void newObject() {
        BoxBearers x = new BoxBearers();
        int[] want = {4, 0, 0, 0, 0, 0, 0, 0, 0, 0, 0, 0, 0, 0, 0};
        for (int what = 0; what < want.length; what++) {
            due("count " + what, x.count(what), want[what]);
        }
        due("fault", x.fault(), -1);
        due("undo", x.undo(), -1);
        due("restore", x.restore(), false);
        due("NONE", BoxBearers.NONE, -1);
        dueThrow("box", () -> x.box(0, 0), NO_SUCH);
        dueThrow("bearer", () -> x.bearer(0, 0), NO_SUCH);
    }

    private static void feed() {
        BoxBearers x = new BoxBearers();
        for (int i = 1; i <= 35; i++) {
            due("feed", x.feed(0, 0, 0, 0, 0), 20 * i);
        }
        due("feed too much", x.feed(0, 0, 0, 0, 0), -1);
        due("tape", x.count(11), 700);
        BoxBearers y = new BoxBearers();
        y.feed(0x746f776e, 0x7320353b, 0x80ffffff, -1, 0);
        due("the highest byte first", y.land(8), 0);
        due("towns", y.count(0), 5);
        due("the tape is empty", y.feed(-1, 0, 0, 0, 0), 20);
        due("a byte above 127", y.land(20), 1);
        due("its place", y.fault(), 0);
    }

    private static void land() {
        BoxBearers x = told(TRIO);
        x.days(2);
        x.see(0, 0, 5);
        x.image();
        due("a fault", tell(x, "box 5 9;"), 3);
        due("tape", x.count(11), 0);
        due("all stays", x.count(2), 2);
        due("the day stays", x.count(4), 2);
        due("acts stay", x.count(9), 1);
        due("what is seen stays", x.count(10), 1);
        due("the image stays", x.restore(), true);
        due("refused", x.count(12), 1);
        feedText(x, "box 5 0;box 5 0;");
        dueThrow("too many", () -> x.land(21), ILLEGAL);
        dueThrow("below 0", () -> x.land(-1), ILLEGAL);
        due("nothing changes", x.count(11), 20);
        due("the fault stays", x.fault(), 6);
        due("status stays", x.count(12), 1);
        due("the first bytes alone", x.land(8), 0);
        due("one box", x.count(2), 1);
        due("4 towns again", x.count(0), 4);
        due("no roads", x.count(1), 0);
        due("no bearers", x.count(3), 0);
        due("day", x.count(4), 0);
        due("acts", x.count(9), 0);
        due("seen", x.count(10), 0);
        due("tape", x.count(11), 0);
        due("status stays", x.count(12), 1);
        due("no image", x.restore(), false);
        due("nothing at all", x.land(0), 0);
        due("no boxes", x.count(2), 0);
        due("a told rule goes", tell(x, "box 9 0;talk 5;"), 0);
        due("by talk", x.then(0, 1, 0), 14);
        due("without", tell(x, "box 9 0;"), 0);
        due("without talk", x.then(0, 1, 0), 8);
    }

    private static void rules() {
        gives("0", 0);
        gives("9999", 9);
        gives("0-10", -9);
        gives("2+3*2-1", 7);
        gives("20/3", 6);
        gives("0-20/3", -6);
        gives("(0-20)/3", -6);
        gives("7/0", 0);
        gives("8/2/2", 2);
        gives("9-3-2", 4);
        gives("2*3/4", 1);
        gives("weight/10", 5);
        gives("hands", 2);
        gives("might-50", 5);
        gives("lean", 3);
        gives("borne*4", 4);
        gives("town", 6);
        gives("day+2", 2);
        gives("3<4", 1);
        gives("4<4", 0);
        gives("4=4", 1);
        gives("1+1=2", 1);
        gives("not 7", 0);
        gives("not not 7", 1);
        gives("not 3<2", 1);
        gives("not not not not not not 0", 0);
        gives("5 and 6", 1);
        gives("5 and 0", 0);
        gives("5 or 0", 1);
        gives("0 or 0", 0);
        gives("1 or 1 and 0", 1);
        gives("(1 or 1) and 0", 0);
        gives("not 0 and 0", 0);
        gives("(2=2)+(3=3)*4", 5);
        gives("(((((6)))))", 6);
        gives("9999*9999*9999", -9);
        gives("9999*9999*(0-40)", 9);
        gives("(0-8192*8192*32)/(0-1)", -9);
        gives("2<3 and 4<5", 1);
        BoxBearers x = told("box 9 0;talk lean+borne+hands+might;falls 0;");
        due("nobody is under it", x.then(0, 1, 0), 9);
    }

    private static void fault() {
        BoxBearers x = told(TRIO);
        due("none", x.fault(), -1);
        tell(x, "road 0 0 1;");
        due("at the second town", x.fault(), 7);
        tell(x, TRIO);
        due("none again", x.fault(), -1);
        misplaced();
        tooMuch();
        unknownOnes();
        clashingOnes();
    }

    private static void misplaced() {
        faultOf("box", 1, 3);
        faultOf("box 5 0", 1, 7);
        faultOf("box 5 0  ", 1, 9);
        faultOf("box 5;", 1, 5);
        faultOf("7", 1, 0);
        faultOf(";", 1, 0);
        faultOf("boxes 5 0;", 1, 0);
        faultOf("  Box 5 0;", 1, 2);
        faultOf("box\t5 0;", 1, 3);
        faultOf("towns x;", 1, 6);
        faultOf("towns 3 3;", 1, 8);
        faultOf("road 0 1;", 1, 8);
        faultOf("bearer 5 5 over 0;", 1, 11);
        faultOf("bearer 5 5 under;", 1, 16);
        faultOf("bearer 5;", 1, 8);
        faultOf("talk ;", 1, 5);
        faultOf("talk 1 2;", 1, 7);
        faultOf("talk 1 weight;", 1, 7);
        faultOf("talk 1 not;", 1, 7);
        faultOf("talk (1;", 1, 7);
        faultOf("talk 1);", 1, 6);
        faultOf("talk 1<2<3;", 1, 8);
        faultOf("talk 1<2=3;", 1, 8);
        faultOf("talk -1;", 1, 5);
        faultOf("talk 1+;", 1, 7);
        faultOf("talk 1>2;", 1, 6);
        faultOf("talk 1 10000;", 1, 7);
        faultOf("talk ((((((;", 1, 11);
        faultOf("talk (((((()", 1, 11);
        faultOf("falls 1", 1, 7);
        faultOf("rox 1 0;", 1, 0);
        faultOf("boy 1 0;", 1, 0);
        BoxBearers cut = new BoxBearers();
        feedText(cut, "towns 35;");
        due("a number that is cut off", cut.land(7), 1);
        due("its end", cut.fault(), 7);
        feedText(cut, "talk town+towns;");
        due("a word that is cut off", cut.land(14), 1);
        due("its end", cut.fault(), 14);
        due("words and numbers side by side", tell(new BoxBearers(), "towns3;box5 0 1;bearer5 5under0;talk\n1or2;"), 0);
    }

    private static void tooMuch() {
        faultOf("towns 1;", 2, 6);
        faultOf("towns 9;", 2, 6);
        faultOf("towns 00003;", 2, 6);
        due("four digits", tell(new BoxBearers(), "towns 0003;"), 0);
        faultOf("road 0 1 10;", 2, 9);
        faultOf("road 00001 1 1;", 2, 5);
        faultOf("box 0 0;", 2, 4);
        faultOf("box 100 0;", 2, 4);
        faultOf("box 1 00000;", 2, 6);
        faultOf("box 1 0 0 0 0 0 0 9;", 2, 18);
        faultOf("bearer 41 1;", 2, 7);
        faultOf("bearer 1 0;", 2, 9);
        faultOf("bearer 1 1 under 12345;", 2, 17);
        faultOf("talk 12345;", 2, 5);
        due("9999", tell(new BoxBearers(), "talk 9999;"), 0);
        faultOf("box 1 0;".repeat(6) + "box 1 0;", 2, 48);
        faultOf("bearer 1 1;".repeat(8) + "bearer 1 1;", 2, 88);
        StringBuilder roads = new StringBuilder("towns 8;");
        for (int i = 0; i < 14; i++) {
            roads.append("road ").append(i / 7).append(' ').append(i < 7 ? i + 1 : i % 7 + 2 > 7 ? 0 : i % 7 + 2).append(" 1;");
        }
        String thirteen = roads.substring(0, 8 + 13 * 11);
        due("13 roads", tell(new BoxBearers(), thirteen), 0);
        due("14 roads", tell(new BoxBearers(), thirteen + "road 6 7 1;"), 0);
        faultOf(thirteen + "road 6 7 1;road 5 7 1;", 2, 162);
        due("six nots", tell(new BoxBearers(), "talk not not not not not not 1;"), 0);
        faultOf("talk not not not not not not not 1;", 2, 29);
        due("not within", tell(new BoxBearers(), "talk not not not not not not (not 1);"), 0);
        due("five within", tell(new BoxBearers(), "talk (((((1)))));"), 0);
        faultOf("talk ((((((1))))));", 2, 11);
        faultOf("talk ((((((x))))));", 2, 11);
        faultOf("talk ((((((and))))));", 2, 11);
        faultOf("talk (((((((1)))))));", 2, 11);
        due("side by side", tell(new BoxBearers(), "talk (((((1))))) + (((((1)))));"), 0);
    }

    private static void unknownOnes() {
        faultOf("talk x;", 3, 5);
        faultOf("talk towns;", 3, 5);
        faultOf("talk z;", 3, 5);
        faultOf("talk a;", 3, 5);
        faultOf("talk and;", 3, 5);
        faultOf("talk 1+not 2;", 3, 7);
        faultOf("talk 1<not 2;", 3, 7);
        faultOf("talk not or;", 3, 9);
        faultOf("road 4 0 1;", 3, 5);
        faultOf("road 0 4 1;", 3, 7);
        faultOf("box 1 4;", 3, 6);
        faultOf("box 1 9999;", 3, 6);
        faultOf("towns 2;box 1 2;", 3, 14);
        due("by 'towns'", tell(new BoxBearers(), "towns 5;box 1 4;"), 0);
        faultOf("bearer 1 1 under 0;", 3, 17);
        faultOf("box 1 0;bearer 1 1 under 1;box 1 0;", 3, 25);
    }

    private static void clashingOnes() {
        faultOf("road 0 0 1;", 4, 7);
        faultOf("road 0 1 1;road 0 1 1;", 4, 18);
        faultOf("road 0 1 1;road 1 0 1;", 4, 18);
        faultOf("road 0 1 1;towns 3;", 4, 11);
        faultOf("box 1 0;towns 3;", 4, 8);
        faultOf("towns 3;box 1 0;towns 3;", 4, 16);
        faultOf("towns 3;bearer 1 1;towns 3;", 5, 19);
        due("behind a bearer", tell(new BoxBearers(), "bearer 1 1;talk town;towns 3;"), 0);
        faultOf("talk 1;talk 1;", 5, 7);
        faultOf("falls 1;talk 1;falls x;", 5, 15);
    }

    private static void count() {
        BoxBearers x = told(TRIO + "bearer 3 5;bearer 3 5;");
        int[] want = {3, 3, 2, 5, 0, 1, 28, 50, 3, 0, 0, 0, 0, 0, 0};
        for (int what = 0; what < want.length; what++) {
            due("count " + what, x.count(what), want[what]);
        }
        x.hand(2, 1);
        x.away(3);
        x.see(0, 13, 1);
        x.see(0, 12, 1);
        x.feed(0, 0, 0, 0, 0);
        due("borne as bits", x.count(5), 3);
        due("idle as bits", x.count(6), 24);
        due("acts", x.count(9), 1);
        due("seen", x.count(10), 1);
        due("tape", x.count(11), 20);
        due("acts refused", x.count(13), 1);
        due("seen refused", x.count(14), 1);
        dueThrow("count 15", () -> x.count(15), NO_SUCH);
        dueThrow("count -1", () -> x.count(-1), NO_SUCH);
        due("undo of none isn't refused", told("").undo(), -1);
    }

    private static void box() {
        BoxBearers x = told(TRIO);
        int[] want = {20, 0, 3, 2, 5, 2, 3};
        for (int what = 0; what < want.length; what++) {
            due("box 0 " + what, x.box(0, what), want[what]);
        }
        int[] other = {30, 2, 0, 0, -30, 1, 0};
        for (int what = 0; what < other.length; what++) {
            due("box 1 " + what, x.box(1, what), other[what]);
        }
        x.hand(2, 0);
        due("nobody is needed", x.box(0, 6), 0);
        x.praise(0, 20);
        due("one alone is needed", x.box(0, 6), 4);
        x.slander(0, 20);
        x.away(2);
        x.days(1);
        due("carried on", x.box(0, 1), 1);
        due("a town twice on its route counts twice", told("box 5 0 0 1;").box(0, 5), 3);
        dueThrow("box 2", () -> x.box(2, 0), NO_SUCH);
        dueThrow("box -1", () -> x.box(-1, 0), NO_SUCH);
        dueThrow("what 7", () -> x.box(0, 7), NO_SUCH);
        dueThrow("what -1", () -> x.box(0, -1), NO_SUCH);
    }

    private static void bearer() {
        BoxBearers x = told(TRIO);
        int[] want = {15, 5, 0, 0, 15, 10};
        for (int what = 0; what < want.length; what++) {
            due("bearer 0 " + what, x.bearer(0, what), want[what]);
        }
        due("under none", x.bearer(2, 2), -1);
        due("no load", x.bearer(2, 5), 0);
        x.praise(0, 1);
        due("cut down", x.bearer(1, 5), 10);
        x.away(1);
        due("alone", x.bearer(0, 5), 21);
        x.hand(1, 0);
        x.slander(0, 20);
        x.days(6);
        due("tired", x.bearer(1, 3), 6);
        due("not below 0", x.bearer(1, 4), 0);
        due("less twice", x.bearer(0, 4), 3);
        dueThrow("bearer 3", () -> x.bearer(3, 0), NO_SUCH);
        dueThrow("bearer -1", () -> x.bearer(-1, 0), NO_SUCH);
        dueThrow("what 6", () -> x.bearer(0, 6), NO_SUCH);
    }

    private static void days() {
        BoxBearers x = told(TRIO);
        due("2 days", x.days(2), 2);
        due("weight", x.box(0, 0), 22);
        due("weight of one that isn't borne", x.box(1, 0), 28);
        due("town", x.box(0, 1), 1);
        due("0 days", x.days(0), -1);
        due("21 days", x.days(21), -1);
        due("20 days", x.days(20), 22);
        due("refused", x.count(13), 2);
        for (int i = 0; i < 48; i++) {
            x.days(20);
        }
        due("982 days", x.count(4), 982);
        due("1000 days", x.days(18), -1);
        due("999 days", x.days(17), 999);
        due("not one more", x.days(1), -1);
        due("at least 1", x.box(1, 0), 1);
        BoxBearers y = told("box 98 0;talk 5;");
        due("99 at most", y.days(2) + y.box(0, 0), 101);
        restAndFall();
    }

    private static void restAndFall() {
        BoxBearers x = told("box 10 0 1;bearer 20 9 under 0;bearer 20 3 under 0;bearer 30 3;");
        x.days(1);
        due("let fall without a rule", x.box(0, 2), 0);
        due("half of 11", x.box(0, 0), 5);
        due("not carried on", x.box(0, 1), 0);
        BoxBearers y = told("box 10 0 1;bearer 20 8 under 0;bearer 20 3 under 0;");
        due("a lean of 5 is borne", y.days(1) + y.box(0, 2), 4);
        due("carried on", y.box(0, 1), 1);
        BoxBearers z = told("box 10 0;bearer 40 1 under 0;falls day=3;talk 0;");
        due("tired by carrying", z.days(3) + z.bearer(0, 3), 6);
        z.days(1);
        due("stunned, not rested", z.bearer(0, 3), 3);
        due("no hand", z.bearer(0, 2), -1);
        z.days(1);
        due("2 less", z.bearer(0, 3), 1);
        z.days(1);
        due("not below 0", z.bearer(0, 3), 0);
        BoxBearers w = told("box 1 0;bearer 40 1 under 0;talk 0;");
        due("9 at most", w.days(12) + w.bearer(0, 3), 21);
        BoxBearers v = told("box 1 0;talk 0;falls 1;");
        due("one nobody bears may fall", v.fallen(0), 1);
        due("at least 1", v.days(1) + v.box(0, 0), 2);
        BoxBearers u = told("box 30 0;bearer 5 1 under 0;talk 0;");
        u.days(2);
        due("under one that isn't borne nobody tires", u.bearer(0, 3), 0);
    }

    private static void hand() {
        BoxBearers x = told(TRIO);
        due("from none", x.hand(2, 1), -1);
        due("there already", x.hand(2, 1), -2);
        due("refused", x.count(13), 1);
        due("one act", x.count(9), 1);
        due("from another", x.hand(2, 0), 1);
        due("all under it", x.box(0, 2), 7);
        dueThrow("no bearer", () -> x.hand(3, 0), NO_SUCH);
        dueThrow("no box", () -> x.hand(0, 2), NO_SUCH);
        due("thrown isn't refused", x.count(13), 1);
    }

    private static void away() {
        BoxBearers x = told(TRIO);
        due("away", x.away(0), 0);
        due("under none", x.away(0), -1);
        due("bits", x.box(0, 2), 2);
        due("refused", x.count(13), 1);
        dueThrow("no bearer", () -> x.away(-1), NO_SUCH);
    }

    private static void change() {
        BoxBearers x = told(TRIO + "bearer 7 7;");
        due("both under one", x.change(0, 1), false);
        due("both under none", x.change(2, 3), false);
        due("one and the same", x.change(0, 0), false);
        due("refused", x.count(13), 3);
        due("changed", x.change(0, 2), true);
        due("there", x.box(0, 2), 6);
        due("idle", x.count(6), 9);
        x.hand(0, 1);
        due("of two boxes", x.change(1, 0), true);
        due("box 0", x.box(0, 2), 5);
        due("box 1", x.box(1, 2), 2);
        dueThrow("no bearer", () -> x.change(0, 4) ? 1 : 0, NO_SUCH);
        dueThrow("no first bearer", () -> x.change(4, 0) ? 1 : 0, NO_SUCH);
    }

    private static void slander() {
        BoxBearers x = told(TRIO);
        due("1 less", x.slander(0, 1), 19);
        x.undo();
        due("less", x.slander(1, 29), 1);
        due("at least 1", x.slander(1, 30), 1);
        due("an act all the same", x.count(9), 2);
        due("0", x.slander(1, 0), -1);
        due("31", x.slander(1, 31), -1);
        due("refused", x.count(13), 2);
        dueThrow("no box", () -> x.slander(2, 0), NO_SUCH);
    }

    private static void praise() {
        BoxBearers x = told(TRIO);
        due("1 more", x.praise(1, 1), 31);
        due("more", x.praise(0, 30), 50);
        due("still more", x.praise(0, 30), 80);
        due("99 at most", x.praise(0, 30), 99);
        due("0", x.praise(0, 0), -1);
        due("31", x.praise(0, 31), -1);
        due("refused", x.count(13), 2);
        dueThrow("no box", () -> x.praise(-1, 5), NO_SUCH);
    }

    private static void undo() {
        BoxBearers x = told(TRIO);
        x.days(3);
        x.hand(2, 1);
        x.change(0, 2);
        x.slander(0, 5);
        x.praise(1, 7);
        x.away(1);
        x.see(0, 1, 1);
        for (int left = 5; left >= 0; left--) {
            due("undo", x.undo(), left);
        }
        due("undo none", x.undo(), -1);
        due("not refused", x.count(13), 0);
        due("day", x.count(4), 0);
        due("weight", x.box(0, 0), 20);
        due("town", x.box(0, 1), 0);
        due("bits", x.box(0, 2), 3);
        due("tired", x.bearer(0, 3), 0);
        due("seen is no act", x.count(10), 1);
        for (int i = 1; i <= 45; i++) {
            x.praise(1, 1);
        }
        due("40 are kept", x.count(9), 40);
        for (int left = 39; left >= 0; left--) {
            due("undo", x.undo(), left);
        }
        due("the first five stay", x.box(1, 0), 35);
        due("undo none", x.undo(), -1);
    }

    private static void then() {
        BoxBearers x = told(TRIO);
        int[] weight = {20, 21, 22, 21, 22};
        int[] town = {0, 1, 1, 0, 0};
        int[] borne = {1, 1, 0, 0, 0};
        for (int day = 0; day < 5; day++) {
            int d = day;
            due("weight " + d, x.then(0, d, 0), d == 4 ? 20 : weight[d]);
            due("town " + d, x.then(0, d, 1), town[d]);
            due("bits " + d, x.then(0, d, 2), 3);
            due("borne " + d, x.then(0, d, 3), borne[d]);
        }
        due("nothing changes", x.count(4), 0);
        due("40 days", x.then(1, 40, 0), 1);
        dueThrow("no box", () -> x.then(2, 41, 0), NO_SUCH);
        dueThrow("no what", () -> x.then(0, 41, 4), NO_SUCH);
        dueThrow("41 days", () -> x.then(0, 41, 0), ILLEGAL);
        dueThrow("-1 days", () -> x.then(0, -1, 0), ILLEGAL);
    }

    private static void who() {
        BoxBearers x = told("box 10 0;bearer 20 9 under 0;bearer 20 1 under 0;talk 0;falls day=1;");
        due("now", x.who(0, 0, 0), 0);
        due("tired", x.who(0, 1, 0), 1);
        due("under", x.who(0, 1, 1), 0);
        due("let fall", x.who(0, 2, 1), -1);
        due("stunned", x.who(0, 2, 0), 1);
        due("rested", x.who(0, 3, 0), 0);
        dueThrow("no bearer", () -> x.who(2, 41, 0), NO_SUCH);
        dueThrow("no what", () -> x.who(0, 41, 2), NO_SUCH);
        dueThrow("41 days", () -> x.who(0, 41, 1), ILLEGAL);
    }

    private static void fallen() {
        BoxBearers x = told("box 10 0;box 10 0;falls day=39 and town=0 or weight<2 and day=20;");
        due("on the 21st", x.fallen(0), 21);
        x.praise(0, 30);
        due("on the 40th", x.fallen(0), 40);
        due("the other one", x.fallen(1), 21);
        due("never", told(TRIO).fallen(0), -1);
        BoxBearers y = told("box 10 0;falls day=40;");
        due("not within 40 days", y.fallen(0), -1);
        y.days(1);
        due("then it is", y.fallen(0), 40);
        dueThrow("no box", () -> x.fallen(2), NO_SUCH);
    }

    private static void rests() {
        BoxBearers x = told(TRIO + "box 1 0;bearer 40 1 under 2;");
        due("behind 2", x.rests(0), 2);
        due("now", x.rests(1), 0);
        due("22 is more than 40 less 18 behind 22 days", x.rests(2), 22);
        due("never", told("box 1 0;bearer 40 1 under 0;talk 0;").rests(0), -1);
        dueThrow("no box", () -> x.rests(3), NO_SUCH);
    }

    private static void meet() {
        BoxBearers x = told("box 20 0 1 2;box 5 2;box 5 2;bearer 40 1 under 0;talk 0;");
        due("behind 2", x.meet(0, 1), 2);
        due("like the other way round", x.meet(1, 0), 2);
        due("now", x.meet(1, 2), 0);
        BoxBearers y = told("box 9 0 1;box 5 1;bearer 40 1 under 0;talk 10*(day=0)-20*(day=39);");
        y.away(0);
        y.praise(0, 30);
        y.praise(0, 1);
        y.hand(0, 0);
        // It weighs 49, too much for 40, until it is 40 on the 40th day.
        due("behind 40", y.meet(0, 1), 40);
        y.praise(0, 1);
        due("not within 40", y.meet(0, 1), -1);
        due("both are one", x.meet(1, 1), -1);
        due("never", told(TRIO).meet(0, 1), -1);
        dueThrow("no box", () -> x.meet(3, 0), NO_SUCH);
        dueThrow("no other box", () -> x.meet(0, 3), NO_SUCH);
    }

    private static void later() {
        BoxBearers x = told(TRIO);
        due("heaviest", x.later(0, 0), 1);
        due("then", x.later(40, 0), 0);
        due("carried", x.later(3, 1), 2);
        due("carried in none", x.later(0, 1), 0);
        due("of like ones the least", told("box 5 0;box 7 0;box 7 0;").later(0, 0), 1);
        due("of two boxes", told("box 5 0;box 7 0;bearer 40 1 under 0;bearer 40 1 under 1;").later(4, 1), 8);
        due("no boxes", new BoxBearers().later(4, 0), -1);
        dueThrow("no what", () -> x.later(41, 2), NO_SUCH);
        dueThrow("41 days", () -> x.later(41, 0), ILLEGAL);
        dueThrow("-1 days", () -> x.later(-1, 1), ILLEGAL);
    }

    private static void calls() {
        BoxBearers x = told("box 20 0 1 2;box 5 2;bearer 40 1 under 0;talk 0;");
        due("now", x.calls(0, 0), 1);
        due("later too", x.calls(0, 2), 1);
        due("one", x.calls(2, 1), 2);
        due("two", x.calls(2, 2), 3);
        due("nobody", x.calls(3, 40), 0);
        dueThrow("no town", () -> x.calls(4, 41), NO_SUCH);
        dueThrow("no town", () -> x.calls(-1, 0), NO_SUCH);
        dueThrow("41 days", () -> x.calls(3, 41), ILLEGAL);
    }

    private static void toBear() {
        BoxBearers x = told(TRIO);
        due("how many", x.toBear(-1), 3);
        due("the first", x.toBear(0), 3);
        due("the second", x.toBear(1), 4);
        BoxBearers y = told("box 10 0;box 10 0;box 20 0;bearer 10 1;bearer 20 1;bearer 10 1;bearer 20 1;bearer 5 1;");
        due("one each", y.toBear(-1), 3);
        due("least bits", y.toBear(0), 1);
        due("least bits of the rest that leave enough", y.toBear(1), 2);
        due("the last", y.toBear(2), 8);
        BoxBearers z = told("box 10 0;box 21 0;bearer 10 1;");
        due("none", z.toBear(-1), -1);
        due("none for the first", z.toBear(0), -1);
        due("no boxes", new BoxBearers().toBear(-1), 0);
        dueThrow("no box", () -> x.toBear(2), NO_SUCH);
        dueThrow("-2", () -> x.toBear(-2), NO_SUCH);
    }

    private static void crew() {
        BoxBearers x = told("box 20 0;bearer 30 9 under 0;bearer 12 4;bearer 12 5;bearer 12 4;bearer 39 9;");
        due("one alone, the least", x.crew(0), 1);
        x.praise(0, 15);
        due("another one", x.crew(0), 16);
        x.praise(0, 10);
        due("two of one height", x.crew(0), 17);
        BoxBearers y = told("box 20 0;bearer 12 4;bearer 12 5;bearer 12 4;");
        due("rather less lean", y.crew(0), 5);
        y.praise(0, 10);
        due("all", y.crew(0), 7);
        y.praise(0, 10);
        due("none", y.crew(0), -1);
        dueThrow("no box", () -> y.crew(1), NO_SUCH);
    }

    private static void toSlander() {
        BoxBearers x = told(TRIO);
        due("it is borne", x.toSlander(0), 0);
        due("nobody", x.toSlander(1), -1);
        x.praise(0, 30);
        due("25 less", x.toSlander(0), 25);
        due("to 1", told("box 99 0;bearer 1 1 under 0;").toSlander(0), 98);
        BoxBearers y = told("box 1 0;bearer 2 1 under 0;talk 0;");
        y.days(1);
        due("no might left", y.toSlander(0), -1);
        dueThrow("no box", () -> x.toSlander(2), NO_SUCH);
    }

    private static void toWait() {
        BoxBearers x = told("box 20 0;box 1 0;bearer 15 1 under 0;talk 0-5;");
        // Behind 1 day it weighs 15 and was carried, which leaves a might of 13; behind 2 it is 10 and 11.
        due("behind 2", x.toWait(0), 2);
        due("nobody", x.toWait(1), -1);
        BoxBearers y = told("box 45 0;bearer 40 1 under 0;talk (day=40)*(0-9);");
        due("not within 40", y.toWait(0), -1);
        y.days(1);
        due("behind 40", y.toWait(0), 40);
        due("now", told(TRIO).toWait(0), 0);
        dueThrow("no box", () -> x.toWait(2), NO_SUCH);
    }

    private static void way() {
        BoxBearers x = told("towns 5;road 0 1 2;road 2 1 5;road 0 2 9;road 2 3 0;");
        due("fewest stairs", x.way(0, 3, 0), 7);
        due("fewest roads", x.way(0, 3, 1), 2);
        due("steepest", x.way(0, 3, 2), 5);
        due("back", x.way(3, 0, 0), 7);
        due("none", x.way(0, 4, 0), -1);
        due("none by roads", x.way(4, 0, 1), -1);
        due("none by the steepest", x.way(4, 0, 2), -1);
        for (int what = 0; what < 3; what++) {
            due("to itself", x.way(4, 4, what), 0);
        }
        dueThrow("no town", () -> x.way(5, 0, 0), NO_SUCH);
        dueThrow("no other town", () -> x.way(0, -1, 0), NO_SUCH);
        dueThrow("no what", () -> x.way(0, 0, 3), NO_SUCH);
    }

    private static void see() {
        BoxBearers x = told(TRIO);
        due("13 days", x.see(0, 13, 1), -1);
        due("-1 days", x.see(0, -1, 1), -1);
        due("weight 0", x.see(0, 0, 0), -1);
        due("weight 100", x.see(0, 0, 100), -1);
        for (int i = 1; i <= 8; i++) {
            due("seen", x.see(0, 12, 99), i);
        }
        due("9 are too many", x.see(0, 1, 1), -1);
        due("refused", x.count(14), 5);
        dueThrow("no box", () -> x.see(2, 13, 0), NO_SUCH);
        due("thrown isn't refused", x.count(14), 5);
    }

    private static void forget() {
        BoxBearers x = told(TRIO);
        x.see(0, 1, 99);
        due("not so", x.weighed(2), 0);
        x.forget();
        due("none", x.count(10), 0);
        due("so", x.weighed(2), 1);
        due("anew", x.see(0, 1, 9), 1);
    }

    private static void weighed() {
        BoxBearers x = told(TRIO);
        due("all other weights", x.weighed(0), 196);
        due("the first", x.weighed(1), 1);
        x.see(1, 3, 1);
        due("27 isn't 1", x.weighed(2), 0);
        due("1 to 4", x.weighed(0), 4);
        due("the first", x.weighed(1), 101);
        x.see(0, 0, 19);
        due("two boxes at once can't be", x.weighed(0), 0);
        due("none", x.weighed(1), -1);
        x.forget();
        x.see(0, 0, 99);
        due("the highest one", x.weighed(1), 99);
        x.forget();
        x.see(0, 0, 19);
        x.see(0, 0, 18);
        due("it can't be both", x.weighed(0), 0);
        due("none", x.weighed(1), -1);
        x.forget();
        x.see(0, 0, 20);
        due("so without", x.weighed(2), 1);
        due("the weight that it has doesn't count", x.weighed(0), 98);
        x.forget();
        x.see(1, 2, 28);
        x.days(1);
        due("from now on", x.weighed(2), 0);
        due("from now on the other weight is 30", x.weighed(1), 130);
        due("no boxes", new BoxBearers().weighed(0), 0);
        dueThrow("no what", () -> x.weighed(3), NO_SUCH);
    }

    private static void look() {
        BoxBearers x = told(TRIO);
        x.see(0, 1, 21);
        due("box", x.look(0), 1);
        due("how many", x.look(1), 93);
        x.see(1, 0, 7);
        due("one box alone stays open", x.look(0), 0);
        due("a single weight is one", x.look(1), 1);
        x.see(1, 0, 8);
        due("none", x.look(0), -1);
        due("0", x.look(1), 0);
        BoxBearers y = told("box 50 0;box 50 0;");
        due("of like ones the least", y.look(0), 0);
        due("the weight that it has comes by the other box", y.look(1), 94);
        due("no boxes", new BoxBearers().look(0), -1);
        dueThrow("no what", () -> x.look(2), NO_SUCH);
        dueThrow("no what", () -> x.look(-1), NO_SUCH);
    }

    private static void rain() {
        BoxBearers x = told(TRIO);
        due("half", x.rain(0, 1, 5), 5);
        due("no rain", x.rain(0, 1, 0), 10);
        due("rain for sure", x.rain(0, 1, 10), 0);
        due("nobody bears it", x.rain(1, 5, 3), 0);
        BoxBearers y = told("box 10 0;bearer 16 1 under 0;talk 0;");
        // Tired 2 by two dry days, 3 with one that is wet, 4 with two.
        due("not both wet", y.rain(0, 2, 3), 91);
        due("all three dry", y.rain(0, 3, 3), 343);
        BoxBearers z = told("box 1 0;bearer 40 1 under 0;talk 0;");
        due("for sure", z.rain(0, 5, 4), 100000);
        dueThrow("no box", () -> x.rain(2, 6, 5), NO_SUCH);
        dueThrow("0 days", () -> x.rain(0, 0, 5), ILLEGAL);
        dueThrow("6 days", () -> x.rain(0, 6, 5), ILLEGAL);
        dueThrow("-1 tenths", () -> x.rain(0, 1, -1), ILLEGAL);
        dueThrow("11 tenths", () -> x.rain(0, 1, 11), ILLEGAL);
    }

    private static void game() {
        BoxBearers x = told(TRIO);
        due("both or neither", x.game(0, 1, 0), 2);
        due("neither goes", x.game(0, 1, 1), 0);
        due("not under one box", x.game(0, 2, 0), -1);
        due("not under one box", x.game(2, 0, 1), -1);
        BoxBearers y = told("box 1 0;box 30 0;bearer 40 1 under 0;bearer 40 1 under 0;bearer 5 5;bearer 5 5;talk 0;");
        due("not tired: staying costs nothing", y.game(0, 1, 0), 3);
        y.days(1);
        // Each alone bears it: one stays, one goes, or nobody rests.
        due("tired: one goes", y.game(0, 1, 0), 2);
        due("the other one", y.game(0, 1, 1), 1);
        y.days(4);
        due("tired 5: both go", y.game(0, 1, 0), 1);
        due("both", y.game(1, 0, 1), 11);
        due("both idle", y.game(2, 3, 0), -1);
        BoxBearers w = told("box 60 0;bearer 40 1 under 0;bearer 40 1 under 0;talk 0;");
        w.days(4);
        due("tired 4: staying gains as much as going", w.game(0, 1, 0), 2);
        due("neither goes", w.game(0, 1, 1), 0);
        w.days(1);
        due("tired 5: going gains more", w.game(0, 1, 1), 11);
        BoxBearers z = told("box 60 0;bearer 40 1 under 0;bearer 26 1 under 0;bearer 40 9;talk 0;");
        z.days(1);
        z.away(1);
        z.days(1);
        z.hand(1, 0);
        z.praise(0, 2);
        due("one tired, the other not", z.game(0, 1, 1), 0);
        dueThrow("no bearer", () -> x.game(3, 3, 0), NO_SUCH);
        dueThrow("no what", () -> x.game(0, 0, 2), NO_SUCH);
        dueThrow("both are one", () -> x.game(2, 2, 0), ILLEGAL);
    }

    private static void years() {
        BoxBearers x = told(TRIO);
        due("none fell", x.years(5, 0, 0), 0);
        due("weight", x.years(5, 0, 1), 50);
        due("borne", x.years(5, 0, 2), 1);
        for (int seed = -3; seed < 60; seed++) {
            replayYears(seed * 7654321, seed % 2 == 0 ? 12 : 40);
        }
        BoxBearers z = told("box 10 0;falls 1;");
        due("each day, without bearers", z.years(7, 40, 0), 40);
        due("at least 1", z.years(7, 40, 1), 1);
        due("no boxes", new BoxBearers().years(7, 40, 1), 0);
        due("nothing changes", x.count(4) + x.count(9), 0);
        dueThrow("no what", () -> x.years(0, 41, 3), NO_SUCH);
        dueThrow("41 days", () -> x.years(0, 41, 0), ILLEGAL);
        dueThrow("-1 days", () -> x.years(0, -1, 0), ILLEGAL);
    }

    private static int seed = 0;

    private static int draw(int of) {
        seed = seed * 1103515245 + 12345;
        return (seed >>> 16 & 0x7fff) % of;
    }

    /** The same days by acts of another object. */
    private static void replayYears(int from, int n) {
        String text = TRIO + "bearer 20 6 under 1;falls lean*hands<weight-40 or 4<lean;";
        BoxBearers x = told(text);
        BoxBearers y = told(text);
        seed = from;
        int falls = 0;
        for (int day = 0; day < n; day++) {
            int kind = draw(6);
            if (kind == 0) {
                int bearer = draw(4);
                y.hand(bearer, draw(2));
            } else if (kind == 1) {
                y.away(draw(4));
            } else if (kind == 2) {
                int box = draw(2);
                y.slander(box, draw(10) + 1);
            } else if (kind == 3) {
                int box = draw(2);
                y.praise(box, draw(10) + 1);
            }
            falls += (y.fallen(0) == 1 ? 1 : 0) + (y.fallen(1) == 1 ? 1 : 0);
            y.days(1);
        }
        due("falls by " + from, x.years(from, n, 0), falls);
        due("weight by " + from, x.years(from, n, 1), y.count(7));
        due("borne by " + from, x.years(from, n, 2), Integer.bitCount(y.count(5)));
    }

    private static void idle() {
        BoxBearers x = told("box 9 0;bearer 40 9 under 0;bearer 20 3;bearer 22 1;bearer 22 3;");
        due("strongest", x.idle(0), 2);
        due("tallest", x.idle(1), 1);
        x.days(3);
        x.away(0);
        due("by might", x.idle(0), 0);
        x.hand(1, 0);
        x.hand(2, 0);
        x.hand(3, 0);
        x.hand(0, 0);
        due("none", x.idle(0), -1);
        due("none", x.idle(1), -1);
        dueThrow("no what", () -> x.idle(2), NO_SUCH);
        BoxBearers y = told("box 1 0;bearer 2 5 under 0;talk 0;");
        y.days(9);
        y.away(0);
        due("one without might too", y.idle(0), 0);
    }

    private static void nearest() {
        BoxBearers x = told("towns 5;road 0 1 2;road 1 2 5;road 0 2 9;box 5 4;box 5 2;box 5 0;box 5 2;");
        due("by stairs", x.nearest(1), 2);
        due("of like ones the least", x.nearest(2), 1);
        due("there", x.nearest(4), 0);
        due("none", x.nearest(3), -1);
        dueThrow("no town", () -> x.nearest(5), NO_SUCH);
    }

    private static void ahead() {
        BoxBearers x = told("box 20 0 1 2 1;bearer 40 1 under 0;talk 0;");
        due("there", x.ahead(0, 0), 0);
        due("next", x.ahead(0, 1), 1);
        due("not on it", x.ahead(0, 3), -1);
        x.days(2);
        due("round", x.ahead(0, 0), 2);
        due("the next one", x.ahead(0, 1), 1);
        BoxBearers y = told("box 20 3 1 2 1 2 0;");
        due("behind 5", y.ahead(0, 0), 5);
        dueThrow("no box", () -> x.ahead(1, 0), NO_SUCH);
        dueThrow("no town", () -> x.ahead(0, 4), NO_SUCH);
    }

    private static void alone() {
        BoxBearers x = told(TRIO);
        due("one", x.alone(0), 4);
        x.slander(0, 10);
        due("all", x.alone(0), 7);
        x.praise(1, 30);
        due("nobody", x.alone(1), 0);
        dueThrow("no box", () -> x.alone(2), NO_SUCH);
    }

    private static void weariest() {
        BoxBearers x = told("box 20 0;box 20 0;bearer 1 1;bearer 21 1 under 0;bearer 40 1 under 1;");
        due("of like ones the least", x.weariest(0), 0);
        due("of like ones the least", x.weariest(1), 1);
        due("behind 40", x.weariest(5), 2);
        due("no bearers", new BoxBearers().weariest(40), -1);
        dueThrow("41 days", () -> x.weariest(41), ILLEGAL);
        dueThrow("-1 days", () -> new BoxBearers().weariest(-1), ILLEGAL);
    }

    private static void onRoutes() {
        BoxBearers x = told("box 5 0 1 0;box 5 2;box 5 1 2;");
        due("0", x.onRoutes(0), 1);
        due("1", x.onRoutes(1), 5);
        due("2", x.onRoutes(2), 6);
        due("3", x.onRoutes(3), 0);
        dueThrow("no town", () -> x.onRoutes(4), NO_SUCH);
    }

    private static void reach() {
        BoxBearers x = told("towns 6;road 0 1 2;road 2 1 0;road 5 4 9;");
        due("0", x.reach(0), 7);
        due("4", x.reach(4), 48);
        due("3", x.reach(3), 8);
        dueThrow("no town", () -> x.reach(6), NO_SUCH);
    }

    private static void total() {
        BoxBearers x = told(TRIO);
        due("now", x.total(0), 50);
        due("behind 1", x.total(1), 50);
        due("behind 3", x.total(3), 48);
        due("no boxes", new BoxBearers().total(40), 0);
        dueThrow("41 days", () -> x.total(41), ILLEGAL);
        dueThrow("-1 days", () -> x.total(-1), ILLEGAL);
    }

    private static void image() {
        BoxBearers x = told(TRIO);
        x.days(1);
        x.see(0, 1, 5);
        x.image();
        x.undo();
        x.praise(0, 30);
        x.image();
        x.slander(0, 30);
        due("in place of another one", x.restore(), true);
        due("weight", x.box(0, 0), 50);
        due("acts", x.count(9), 1);
        due("undo", x.undo(), 0);
        due("weight at first", x.box(0, 0), 20);
    }

    private static void restore() {
        BoxBearers x = told(TRIO);
        due("none", x.restore(), false);
        x.days(1);
        x.hand(2, 1);
        x.see(0, 1, 5);
        x.image();
        for (int again = 0; again < 2; again++) {
            x.undo();
            x.undo();
            x.days(5);
            x.away(0);
            x.days(30);
            x.forget();
            x.feed(0, 0, 0, 0, 0);
            due("restore", x.restore(), true);
            due("day", x.count(4), 1);
            due("weight", x.box(0, 0), 21);
            due("town", x.box(0, 1), 1);
            due("bits", x.box(0, 2), 3);
            due("tired", x.bearer(0, 3), 1);
            due("hand", x.bearer(2, 2), 1);
            due("acts", x.count(9), 2);
            due("seen", x.count(10), 1);
            due("status stays", x.count(13), again + 1);
            due("tape stays", x.count(11), 20 * (again + 1));
        }
        due("undo", x.undo(), 1);
        due("the hand", x.bearer(2, 2), -1);
        due("undo", x.undo(), 0);
        due("the day", x.count(4), 0);
    }

    public static void main(String[] args) {
        Runnable[] tests = {PromisesTest::newObject, PromisesTest::feed, PromisesTest::land, PromisesTest::fault,
            PromisesTest::count, PromisesTest::box, PromisesTest::bearer, PromisesTest::days, PromisesTest::hand,
            PromisesTest::away, PromisesTest::change, PromisesTest::slander, PromisesTest::praise, PromisesTest::undo,
            PromisesTest::then, PromisesTest::who, PromisesTest::fallen, PromisesTest::rests, PromisesTest::meet,
            PromisesTest::later, PromisesTest::calls, PromisesTest::toBear, PromisesTest::crew, PromisesTest::toSlander,
            PromisesTest::toWait, PromisesTest::way, PromisesTest::see, PromisesTest::forget, PromisesTest::weighed,
            PromisesTest::look, PromisesTest::rain, PromisesTest::game, PromisesTest::years, PromisesTest::idle,
            PromisesTest::nearest, PromisesTest::ahead, PromisesTest::alone, PromisesTest::weariest, PromisesTest::onRoutes,
            PromisesTest::reach, PromisesTest::total, PromisesTest::image, PromisesTest::restore};
        for (int i = 0; i < tests.length; i++) {
            sentence("Promise " + (i + 1) + ":", tests[i]);
        }
        sentence("Promise 3:", PromisesTest::rules);
        end("PromisesTest", args);
    }
}
