/** The boundary cases of the document's Terms, part 2: days and acts. */
public final class DayBoundariesTest extends Checks {
    private static final String STEADY = "talk 0;falls 0;";

    private static void atFirst() {
        BoxBearers x = told("box 9 3 1;box 9 2;bearer 40 1 under 0;bearer 40 1;");
        due("the first of two", x.box(0, 1), 3);
        due("the only one", x.box(1, 1), 2);
        due("not tired", x.bearer(0, 3) + x.bearer(1, 3), 0);
        x.days(3);
        due("land anew", tell(x, "box 9 1 3;bearer 40 1 under 0;"), 0);
        due("the first again", x.box(0, 1), 1);
        due("not tired again", x.bearer(0, 3), 0);
    }

    private static void might() {
        BoxBearers x = told("box 1 0;bearer 5 1 under 0;" + STEADY);
        int[] want = {5, 3, 1, 0, 0};
        for (int day = 0; day < want.length; day++) {
            due("might behind " + day, x.bearer(0, 4), want[day]);
            x.days(1);
        }
        BoxBearers y = told("box 1 0;box 9 0;bearer 3 1 under 0;bearer 40 1 under 0;" + STEADY);
        y.days(3);
        due("one below 0 takes nothing from the others", y.box(0, 4), 34 - 1);
    }

    private static void borne() {
        due("just so", told("box 25 0;bearer 15 1 under 0;bearer 10 1 under 0;").count(5), 1);
        due("by 1 too heavy", told("box 26 0;bearer 15 1 under 0;bearer 10 1 under 0;").count(5), 0);
        due("more", told("box 24 0;bearer 15 1 under 0;bearer 10 1 under 0;").count(5), 1);
        due("nobody", told("box 1 0;bearer 40 1;").count(5), 0);
        due("another box's bearer", told("box 9 0;box 9 0;bearer 40 1 under 1;").count(5), 2);
        BoxBearers x = told("box 1 0;bearer 2 1 under 0;" + STEADY);
        x.days(1);
        due("one without might", x.then(0, 0, 3), 0);
    }

    private static void keptToNine() {
        int[][] rows = {{8, 8}, {9, 9}, {10, 9}, {9999, 9}, {0, 0}};
        for (int[] row : rows) {
            due("more by " + row[0], told("box 50 0;talk " + row[0] + ";").then(0, 1, 0), 50 + row[1]);
            due("less by " + row[0], told("box 50 0;talk 0-" + row[0] + ";").then(0, 1, 0), 50 - row[1]);
        }
    }

    private static void withoutTalk() {
        due("just borne", told("box 20 0;bearer 20 1 under 0;").then(0, 1, 0), 21);
        due("by 1 too heavy", told("box 21 0;bearer 20 1 under 0;").then(0, 1, 0), 20);
        due("nobody", told("box 21 0;").then(0, 1, 0), 20);
        due("'falls' alone", told("box 21 0;falls 0;").then(0, 1, 0), 20);
    }

    private static void oneToNinetyNine() {
        BoxBearers x = told("box 98 0;box 95 0;box 99 0;box 90 0;talk 9;");
        BoxBearers y = told("box 2 0;box 5 0;box 1 0;box 10 0;talk 0-9;");
        for (int box = 0; box < 4; box++) {
            due("99 at most", x.then(box, 1, 0), 99);
            due("1 at least", y.then(box, 1, 0), 1);
        }
        due("98", told("box 89 0;talk 9;").then(0, 1, 0), 98);
        due("2", told("box 11 0;talk 0-9;").then(0, 1, 0), 2);
        due("1 without talk", told("box 1 0;").then(0, 1, 0), 1);
        String strong = "bearer 40 1 under 0;bearer 40 1 under 0;bearer 40 1 under 0;";
        due("99 without talk", told("box 99 0;" + strong).then(0, 1, 0), 99);
    }

    private static void fallsGives() {
        String start = "box 20 0;bearer 40 1 under 0;talk 0;falls ";
        due("0", told(start + "0;").fallen(0), NONE);
        due("below 0", told(start + "0-1;").fallen(0), NONE);
        due("1", told(start + "1;").fallen(0), 1);
        due("2", told(start + "2;").fallen(0), 1);
        due("9999", told(start + "9999;").fallen(0), 1);
        due("behind talk", told("box 20 0;bearer 40 1 under 0;talk 1;falls weight=21;").fallen(0), 1);
        due("not ahead of talk", told("box 20 0;bearer 40 1 under 0;talk 1;falls weight=20;").fallen(0), NONE);
        due("one that isn't borne", told("box 20 0;talk 0;falls 1;").fallen(0), 1);
        due("a rule in place of lean", told("box 20 0;bearer 40 1 under 0;bearer 9 9 under 0;falls 0;").fallen(0), NONE);
    }

    private static void withoutFalls() {
        due("a lean of 5", told("box 20 0;bearer 40 1 under 0;bearer 9 6 under 0;talk 0;").fallen(0), NONE);
        due("a lean of 6", told("box 20 0;bearer 40 1 under 0;bearer 9 7 under 0;talk 0;").fallen(0), 1);
        due("not borne", told("box 50 0;bearer 40 1 under 0;bearer 9 7 under 0;talk 0;").fallen(0), NONE);
        due("just borne", told("box 49 0;bearer 40 1 under 0;bearer 9 7 under 0;talk 0;").fallen(0), 1);
        due("borne only ahead of talk", told("box 49 0;bearer 40 1 under 0;bearer 9 7 under 0;talk 1;").fallen(0), NONE);
        due("borne only behind talk", told("box 50 0;bearer 40 1 under 0;bearer 9 7 under 0;talk 0-1;").fallen(0), 1);
    }

    private static void half() {
        int[][] rows = {{1, 1}, {2, 1}, {3, 1}, {4, 2}, {21, 10}, {98, 49}, {99, 49}};
        for (int[] row : rows) {
            due("half of " + row[0], told("box " + row[0] + " 0;talk 0;falls 1;").then(0, 1, 0), row[1]);
        }
        due("of what it is behind talk", told("box 20 0;talk 2;falls 1;").then(0, 1, 0), 11);
    }

    private static void handsAway() {
        BoxBearers x = told("box 9 0 1;box 9 0 1;bearer 40 1 under 0;bearer 40 1 under 0;bearer 40 1 under 1;"
            + "talk 0;falls day=4 and town=0;");
        // Behind 4 days both boxes are in town 0; both are let fall on the 5th.
        x.days(4);
        due("tired", x.bearer(0, 3), 4);
        x.days(1);
        for (int bearer = 0; bearer < 3; bearer++) {
            due("no hand " + bearer, x.bearer(bearer, 2), NONE);
            due("stunned, so as tired as before", x.bearer(bearer, 3), 4);
        }
        x.days(1);
        due("on that day alone", x.bearer(0, 3), 2);
        BoxBearers y = told("box 9 0;box 9 1;bearer 40 1 under 0;bearer 40 1 under 1;bearer 40 1;talk 0;falls town=0;");
        y.days(1);
        due("those under the other one stay", y.bearer(1, 2), 1);
        due("carried on", y.bearer(1, 3), 1);
    }

    private static void stunnedOnThatDay() {
        BoxBearers x = told("box 9 0;bearer 40 1 under 0;bearer 40 1 under 0;talk 0;falls day=3;");
        x.days(2);
        x.away(1);
        x.days(1);
        due("rested", x.bearer(1, 3), 0);
        x.days(1);
        due("stunned", x.bearer(0, 3), 3);
        due("who has no hand isn't stunned", x.bearer(1, 3), 0);
        x.days(1);
        due("2 less on the next day", x.bearer(0, 3), 1);
    }

    private static void carriedOn() {
        BoxBearers x = told("box 40 0 1;bearer 40 1 under 0;talk 1;falls 0;");
        x.days(1);
        due("borne only ahead of talk: not carried", x.box(0, 1), 0);
        due("not tired by it", x.bearer(0, 3), 0);
        BoxBearers y = told("box 41 0 1;bearer 40 1 under 0;talk 0-1;falls 0;");
        y.days(1);
        due("borne behind talk: carried", y.box(0, 1), 1);
        due("tired by it", y.bearer(0, 3), 1);
        BoxBearers z = told("box 9 0 1;bearer 40 1 under 0;talk 0;falls 1;");
        z.days(1);
        due("let fall: not carried", z.box(0, 1), 0);
        due("not tired by it", z.bearer(0, 3), 0);
        due("counted", z.later(5, 1), 0);
    }

    private static void roundTheRoute() {
        BoxBearers x = told("box 9 0 1 3;box 9 2;box 9 0 1 2 3 2 1;bearer 40 1 under 0;bearer 40 1 under 1;"
            + "bearer 40 1 under 2;" + STEADY);
        int[][] want = {{0, 2, 0}, {1, 2, 1}, {3, 2, 2}, {0, 2, 3}, {1, 2, 2}, {3, 2, 1}, {0, 2, 0}, {1, 2, 1}};
        for (int day = 0; day < want.length; day++) {
            for (int box = 0; box < 3; box++) {
                due("box " + box + " behind " + day, x.then(box, day, 1), want[day][box]);
            }
        }
    }

    private static void tiredAtMost() {
        BoxBearers x = told("box 1 0;bearer 40 1 under 0;" + STEADY);
        due("8", x.who(0, 8, 0), 8);
        due("9", x.who(0, 9, 0), 9);
        due("9 at most", x.who(0, 10, 0), 9);
        due("9 at most", x.who(0, 40, 0), 9);
    }

    private static void rested() {
        BoxBearers x = told("box 1 0;bearer 40 1 under 0;bearer 40 1;" + STEADY);
        x.days(4);
        x.away(0);
        int[] even = {4, 2, 0, 0};
        for (int day = 0; day < even.length; day++) {
            due("of 4 behind " + day, x.who(0, day, 0), even[day]);
        }
        x.undo();
        x.days(1);
        x.away(0);
        int[] odd = {5, 3, 1, 0, 0};
        for (int day = 0; day < odd.length; day++) {
            due("of 5 behind " + day, x.who(0, day, 0), odd[day]);
        }
        due("one who never was tired", x.who(1, 5, 0), 0);
        x.hand(0, 0);
        x.praise(0, 30);
        x.praise(0, 30);
        due("no rest under one that isn't borne", x.who(0, 3, 0), 5);
    }

    private static void dayIsMore() {
        BoxBearers x = told("box 50 0;talk day;");
        due("0 at first", x.count(4), 0);
        due("on the first day it is 0", x.then(0, 1, 0), 50);
        due("on the second 1", x.then(0, 2, 0), 51);
        x.days(1);
        due("1 then", x.count(4), 1);
        due("without boxes too", new BoxBearers().days(3), 3);
    }

    private static void fortyActs() {
        BoxBearers x = told("box 1 0;");
        for (int i = 1; i <= 40; i++) {
            x.praise(0, 1);
            due("kept", x.count(9), i);
        }
        x.praise(0, 1);
        due("the 41st", x.count(9), 40);
        x.praise(0, 1);
        due("the 42nd", x.count(9), 40);
        for (int left = 39; left >= 0; left--) {
            due("undone", x.undo(), left);
            due("weight", x.box(0, 0), 3 + left);
        }
        due("no more", x.undo(), NONE);
        due("the first two stay", x.box(0, 0), 3);
    }

    private static void daysOfAnAct() {
        due("1", told(TRIO).days(1), 1);
        due("20", told(TRIO).days(20), 20);
        due("0", told(TRIO).days(0), NONE);
        due("21", told(TRIO).days(21), NONE);
        due("-1", told(TRIO).days(-1), NONE);
        due("very many", told(TRIO).days(Integer.MAX_VALUE), NONE);
        due("very few", told(TRIO).days(Integer.MIN_VALUE), NONE);
    }

    private static void handsPut() {
        BoxBearers x = told(TRIO);
        x.hand(2, 0);
        due("with the others", x.box(0, 2), 7);
        x.hand(0, 1);
        due("no longer under the one", x.box(0, 2), 6);
        due("under the other", x.box(1, 2), 1);
        x.away(1);
        x.away(2);
        due("nobody left", x.box(0, 2), 0);
        due("idle", x.count(6), 6);
        due("acts", x.count(9), 4);
    }

    private static void changeSides() {
        BoxBearers x = told(TRIO);
        x.change(0, 2);
        due("where the other one was", x.bearer(2, 2), 0);
        due("under none", x.bearer(0, 2), NONE);
        x.change(0, 2);
        due("and back", x.bearer(0, 2), 0);
        x.hand(2, 1);
        x.days(1);
        x.change(1, 2);
        due("under the other box", x.bearer(1, 2), 1);
        due("under the one box", x.bearer(2, 2), 0);
        due("the third stays", x.bearer(0, 2), 0);
        due("each stays as tired", x.bearer(2, 3) * 10 + x.bearer(1, 3), 11);
    }

    private static void lessBySlander() {
        due("1", told("box 50 0;").slander(0, 1), 49);
        due("30", told("box 50 0;").slander(0, 30), 20);
        due("to 1", told("box 31 0;").slander(0, 30), 1);
        due("at least 1", told("box 30 0;").slander(0, 30), 1);
        due("at least 1", told("box 1 0;").slander(0, 1), 1);
        due("to 2", told("box 32 0;").slander(0, 30), 2);
        due("0", told("box 50 0;").slander(0, 0), NONE);
        due("31", told("box 50 0;").slander(0, 31), NONE);
    }

    private static void moreByPraise() {
        due("1", told("box 50 0;").praise(0, 1), 51);
        due("30", told("box 50 0;").praise(0, 30), 80);
        due("to 99", told("box 69 0;").praise(0, 30), 99);
        due("99 at most", told("box 70 0;").praise(0, 30), 99);
        due("99 at most", told("box 99 0;").praise(0, 1), 99);
        due("to 98", told("box 68 0;").praise(0, 30), 98);
        due("0", told("box 50 0;").praise(0, 0), NONE);
        due("31", told("box 50 0;").praise(0, 31), NONE);
    }

    private static void lastFirst() {
        BoxBearers x = told("box 20 0 1 2;box 30 3;bearer 40 2 under 0;bearer 12 7;talk 3*borne;falls day=3;");
        int[] pictures = new int[8];
        pictures[0] = pictureOf(x);
        x.hand(1, 1);
        pictures[1] = pictureOf(x);
        x.days(2);
        pictures[2] = pictureOf(x);
        x.change(0, 1);
        pictures[3] = pictureOf(x);
        x.slander(1, 30);
        pictures[4] = pictureOf(x);
        x.praise(0, 30);
        pictures[5] = pictureOf(x);
        // On the second of these days both boxes are let fall.
        x.days(2);
        pictures[6] = pictureOf(x);
        due("hands are away", x.count(6), 3);
        x.hand(0, 1);
        x.away(0);
        due("acts", x.count(9), 8);
        x.undo();
        for (int left = 6; left >= 0; left--) {
            due("left", x.undo(), left);
            due("all as it was behind " + left, pictureOf(x), pictures[left]);
        }
    }

    private static void allOfMany() {
        StringBuilder text = new StringBuilder("towns 8;");
        for (int box = 0; box < 6; box++) {
            text.append("box ").append(10 + box).append(" 0 1 2 3 4 ").append(box).append(';');
        }
        for (int bearer = 0; bearer < 8; bearer++) {
            text.append("bearer ").append(30 + bearer).append(" 1 under ").append(bearer % 6).append(';');
        }
        BoxBearers x = told(text.append("talk town*2;falls 0;").toString());
        x.days(5);
        x.away(7);
        x.days(1);
        int before = pictureOf(x);
        x.days(3);
        x.undo();
        due("all as it was", pictureOf(x), before);
        // 15, 15, 17, 21, 27, and too heavy then: 35 and 43 in town 4.
        due("the last box", x.box(5, 0) * 10 + x.box(5, 1), 434);
        due("the last bearer", x.bearer(7, 2) * 10 + x.bearer(7, 3), -7);
    }

    private static void slanderThatChangesNothing() {
        BoxBearers x = told("box 1 0;box 99 0;");
        x.slander(0, 5);
        x.praise(1, 5);
        due("both are kept", x.count(9), 2);
        due("not refused", x.count(13), 0);
        due("undone to what it was", x.undo(), 1);
        due("99", x.box(1, 0), 99);
        x.undo();
        due("1", x.box(0, 0), 1);
    }

    public static void main(String[] args) {
        sentence("A BOX is at first in the first TOWN of its ROUTE; nobody is TIRED.", DayBoundariesTest::atFirst);
        sentence("MIGHT of a BEARER is STRENGTH less TIRED twice (not below 0).", DayBoundariesTest::might);
        sentence("A BOX is BORNE, if MIGHT of those under it together is its WEIGHT or more, and there is one.",
            DayBoundariesTest::borne);
        sentence("WEIGHT is more by what TALK gives, kept to -9 to 9", DayBoundariesTest::keptToNine);
        sentence("(without it 1, if it is BORNE, else -1)", DayBoundariesTest::withoutTalk);
        sentence("within 1 to 99", DayBoundariesTest::oneToNinetyNine);
        sentence("then, if FALLS gives more than 0", DayBoundariesTest::fallsGives);
        sentence("(without it: if it is BORNE, and 'lean' is more than 5)", DayBoundariesTest::withoutFalls);
        sentence("WEIGHT is half of it (cut down, at least 1)", DayBoundariesTest::half);
        sentence("all under it take their hands away", DayBoundariesTest::handsAway);
        sentence("and are STUNNED on that DAY", DayBoundariesTest::stunnedOnThatDay);
        sentence("else, if it is BORNE then, it is carried on", DayBoundariesTest::carriedOn);
        sentence("to the next TOWN of its ROUTE (behind the last one comes the first one)", DayBoundariesTest::roundTheRoute);
        sentence("each under it is 1 more TIRED (9 at most)", DayBoundariesTest::tiredAtMost);
        sentence("Then each BEARER who has no hand under any BOX, and isn't STUNNED, is 2 less TIRED (not below 0).",
            DayBoundariesTest::rested);
        sentence("The DAY is one more then.", DayBoundariesTest::dayIsMore);
        sentence("ACTS (at most 40 are kept, the latest ones)", DayBoundariesTest::fortyActs);
        sentence("DAYS go by (1 to 20)", DayBoundariesTest::daysOfAnAct);
        sentence("a BEARER puts a HAND under a BOX; a BEARER takes the HAND AWAY", DayBoundariesTest::handsPut);
        sentence("two BEARERS CHANGE (each is where the other one was)", DayBoundariesTest::changeSides);
        sentence("SLANDER: WEIGHT of a BOX is 1 to 30 less (at least 1)", DayBoundariesTest::lessBySlander);
        sentence("PRAISE: 1 to 30 more (99 at most)", DayBoundariesTest::moreByPraise);
        sentence("They are UNDONE, the last one first.", DayBoundariesTest::lastFirst);
        sentence("They are UNDONE", DayBoundariesTest::allOfMany);
        sentence("(at least 1); PRAISE", DayBoundariesTest::slanderThatChangesNothing);
        end("DayBoundariesTest", args);
    }
}
