/** The boundary cases of the document's Terms, part 3: what will be, who could bear which, ways. */
public final class AheadBoundariesTest extends Checks {
    /** All that looks ahead leaves everything as it is. */
    private static void onlyDays() {
        BoxBearers x = told(TRIO);
        x.days(1);
        int before = pictureOf(x);
        x.then(0, 40, 0);
        x.who(0, 40, 0);
        x.fallen(0);
        x.rests(0);
        x.meet(0, 1);
        x.later(40, 1);
        x.calls(0, 40);
        x.toWait(0);
        x.toBear(-1);
        x.crew(0);
        x.toSlander(0);
        x.look(0);
        x.weariest(40);
        x.total(40);
        x.rain(0, 5, 5);
        x.game(0, 1, 0);
        x.years(7, 40, 0);
        due("nothing is changed by it", pictureOf(x), before);
        due("from now on", x.then(0, 0, 0), x.box(0, 0));
        due("and 1 day more", x.then(0, 1, 0), x.days(1) == 2 ? x.box(0, 0) : 0);
    }

    private static void thenDays() {
        BoxBearers x = told("box 50 1 2;bearer 40 1 under 0;bearer 40 1 under 0;talk day=39;falls day=39;");
        due("0: weight", x.then(0, 0, 0), 50);
        due("0: town", x.then(0, 0, 1), 1);
        due("0: who", x.then(0, 0, 2), 3);
        due("0: borne", x.then(0, 0, 3), 1);
        due("39: who", x.then(0, 39, 2), 3);
        due("40: weight", x.then(0, 40, 0), 25);
        due("40: who", x.then(0, 40, 2), 0);
        due("40: borne", x.then(0, 40, 3), 0);
        due("1: town", x.then(0, 1, 1), 2);
        illegal("then", days -> x.then(0, days, 0), 0, 40);
        illegal("who", days -> x.who(0, days, 0), 0, 40);
        due("0: tired", x.who(0, 0, 0), 0);
        due("39: under", x.who(0, 39, 1), 0);
        due("40: under none", x.who(0, 40, 1), NONE);
    }

    private static void thenBehindTheLastDay() {
        BoxBearers x = told("box 50 0;talk day=1038;");
        for (int i = 0; i < 49; i++) {
            x.days(20);
        }
        x.days(19);
        due("the last day", x.count(4), 999);
        due("1038", x.then(0, 39, 0), 50);
        due("1039", x.then(0, 40, 0), 51);
    }

    private static void fallen() {
        String start = "box 50 0;talk 0;falls day=";
        due("1", told(start + "0;").fallen(0), 1);
        due("40", told(start + "39;").fallen(0), 40);
        due("none", told(start + "40;").fallen(0), NONE);
        due("the first one of many", told("box 50 0;talk 0;falls 4<day;").fallen(0), 6);
        BoxBearers x = told(start + "0;");
        x.days(1);
        due("one that was isn't one that will be", x.fallen(0), NONE);
        due("the other box", told("box 50 0;box 50 1;talk 0;falls town=1 and day=3;").fallen(0), NONE);
    }

    private static void rests() {
        String start = "box 1 0;bearer 40 1 under 0;falls 0;talk 9*(";
        due("0", told("box 41 0;bearer 40 1 under 0;").rests(0), 0);
        due("1", told("box 40 0;bearer 40 1 under 0;").rests(0), 1);
        // Tired 9, so a might of 22: three times 9 more are too much.
        due("40", told(start + "36<day);").rests(0), 40);
        due("none", told(start + "37<day);").rests(0), NONE);
        due("nobody under it", told("box 1 0;").rests(0), 0);
    }

    private static void meet() {
        String start = "box 49 0 1;box 5 1;bearer 40 1 under 0;falls 0;talk 0-9*(day=";
        due("0", told("box 49 1;box 5 1;").meet(0, 1), 0);
        due("1", told(start + "0);").meet(0, 1), 1);
        due("40", told(start + "39);").meet(0, 1), 40);
        due("none", told(start + "40);").meet(0, 1), NONE);
        due("both are one", told("box 5 1;box 5 2;").meet(1, 1), NONE);
        due("they pass one another", told("box 5 0 1;box 5 1 0;bearer 40 1 under 0;bearer 40 1 under 1;").meet(0, 1), NONE);
    }

    private static void heaviest() {
        due("of like ones the least", told("box 7 0;box 9 0;box 9 0;").later(0, 0), 1);
        due("of three like ones", told("box 9 0;box 9 0;box 9 0;").later(0, 0), 0);
        due("the last", told("box 7 0;box 8 0;box 9 0;").later(0, 0), 2);
        due("none", new BoxBearers().later(0, 0), NONE);
        due("none behind 40", new BoxBearers().later(40, 0), NONE);
        due("of weight 1", told("box 1 0;").later(40, 0), 0);
        BoxBearers y = told("box 7 1;box 9 0;talk 9*(day=39)*(town=1);");
        due("behind 39", y.later(39, 0), 1);
        due("behind 40", y.later(40, 0), 0);
        illegal("later", days -> y.later(days, 0), 0, 40);
    }

    private static void calls() {
        String start = "box 49 0 1;box 5 1;bearer 40 1 under 0;falls 0;talk 0-9*(day=";
        due("now", told(start + "0);").calls(1, 0), 2);
        due("behind one", told(start + "0);").calls(1, 1), 3);
        due("behind 40", told(start + "39);").calls(1, 40), 3);
        due("not within 39", told(start + "39);").calls(1, 39), 2);
        due("where it no longer is", told(start + "0);").calls(0, 40), 1);
        due("nobody", told(start + "0);").calls(3, 40), 0);
        BoxBearers x = told(start + "0);");
        illegal("calls", days -> x.calls(1, days), 0, 40);
    }

    private static void toBearAll() {
        due("just enough", told("box 20 0;box 20 0;bearer 20 1;bearer 20 1;").toBear(-1), 2);
        due("one is too weak by 1", told("box 20 0;box 20 0;bearer 20 1;bearer 19 1;").toBear(-1), NONE);
        due("none for the first one either", told("box 20 0;box 20 0;bearer 20 1;bearer 19 1;").toBear(0), NONE);
        due("all under one", told("box 20 0;bearer 10 1;bearer 10 1;").toBear(-1), 2);
        due("all under one, as bits", told("box 20 0;bearer 10 1;bearer 10 1;").toBear(0), 3);
        due("no one under two", told("box 1 0;box 1 0;bearer 40 1;").toBear(-1), NONE);
        due("whoever is under which", told("box 20 0;bearer 9 1 under 0;bearer 20 1;").toBear(0), 2);
        due("no boxes", told("bearer 1 1;").toBear(-1), 0);
        due("no bearers", told("box 1 0;").toBear(-1), NONE);
        due("no bearers for the first", told("box 1 0;").toBear(0), NONE);
        BoxBearers x = told("box 20 0;bearer 20 1 under 0;talk 0;");
        x.days(1);
        due("might as it is now", x.toBear(-1), NONE);
        BoxBearers y = told("box 20 0;box 9 0;bearer 20 1;bearer 40 1;");
        due("fewest", y.toBear(-1), 2);
        due("not one who is too strong for nothing", y.toBear(0), 1);
        due("all 8 for 6", told("box 10 0;".repeat(4) + "box 20 0;box 20 0;" + "bearer 10 1;".repeat(8)).toBear(-1), 8);
        due("7 aren't enough", told("box 10 0;".repeat(4) + "box 20 0;box 20 0;" + "bearer 10 1;".repeat(7)).toBear(-1), NONE);
    }

    private static void firstRow() {
        BoxBearers x = told("box 10 0;".repeat(4) + "box 20 0;box 20 0;" + "bearer 10 1;".repeat(8));
        int[] want = {1, 2, 4, 8, 48, 192};
        for (int box = 0; box < 6; box++) {
            due("box " + box, x.toBear(box), want[box]);
        }
        BoxBearers y = told("box 10 0;box 10 0;bearer 5 1;bearer 5 1;bearer 10 1;bearer 10 1;bearer 10 1;");
        due("fewest ahead of least bits", y.toBear(0), 4);
        due("then the next", y.toBear(1), 8);
        BoxBearers z = told("box 5 0;box 30 0;bearer 30 1;bearer 20 1;bearer 5 1;");
        due("the least bits that leave enough", z.toBear(0), 2);
        due("for the other one", z.toBear(1), 1);
    }

    private static void crew() {
        due("least lean ahead of the fewest", told("box 20 0;bearer 15 1;bearer 15 9;bearer 5 1;bearer 5 9;").crew(0), 5);
        due("no lean of six rather than 1 of two",
            told("box 24 0;" + "bearer 4 1;".repeat(6) + "bearer 12 3;bearer 12 4;").crew(0), 63);
        due("a lean of 1 of six rather than 2 of two",
            told("box 24 0;" + "bearer 4 1;".repeat(5) + "bearer 4 2;bearer 12 7;bearer 12 9;").crew(0), 63);
        due("one has no lean", told("box 20 0;bearer 10 1;bearer 10 1;bearer 20 9;").crew(0), 4);
        due("fewest ahead of least bits", told("box 20 0;bearer 7 1;bearer 7 1;bearer 7 1;bearer 10 1;bearer 10 1;").crew(0), 24);
        due("least bits", told("box 20 0;bearer 9 1;bearer 20 3;bearer 20 1;").crew(0), 2);
        due("just enough", told("box 20 0;bearer 20 3;").crew(0), 1);
        due("none", told("box 21 0;bearer 20 3;").crew(0), NONE);
        due("no bearers", told("box 1 0;").crew(0), NONE);
        due("those under another one too", told("box 20 0;box 9 0;bearer 20 3 under 1;").crew(0), 1);
        due("nobody else", told("box 20 0;bearer 19 3 under 0;bearer 20 9;").crew(0), 2);
        due("all 8", told("box 40 0;" + "bearer 5 1;".repeat(7) + "bearer 5 9;").crew(0), 255);
        BoxBearers x = told("box 20 0;bearer 20 1 under 0;bearer 20 1;talk 0;");
        x.days(1);
        due("might as it is now", x.crew(0), 2);
    }

    private static void needed() {
        String two = "bearer 10 1 under 0;bearer 15 1 under 0;";
        due("both", told("box 16 0;" + two).box(0, 6), 3);
        due("the stronger one", told("box 15 0;" + two).box(0, 6), 2);
        due("the stronger one", told("box 11 0;" + two).box(0, 6), 2);
        due("neither", told("box 10 0;" + two).box(0, 6), 0);
        due("one alone", told("box 1 0;bearer 40 1 under 0;").box(0, 6), 1);
        due("it isn't borne", told("box 26 0;" + two).box(0, 6), 0);
        due("just borne", told("box 25 0;" + two).box(0, 6), 3);
        due("nobody", told("box 1 0;bearer 9 1;").box(0, 6), 0);
    }

    private static void toSlander() {
        due("0: it is", told("box 20 0;bearer 20 1 under 0;").toSlander(0), 0);
        due("0: far more", told("box 1 0;bearer 20 1 under 0;").toSlander(0), 0);
        due("1", told("box 21 0;bearer 20 1 under 0;").toSlander(0), 1);
        due("98, more than one slander may do", told("box 99 0;bearer 1 1 under 0;").toSlander(0), 98);
        due("nobody", told("box 20 0;bearer 20 1;").toSlander(0), NONE);
        BoxBearers x = told("box 1 0;bearer 2 1 under 0;bearer 1 1;talk 0;");
        x.days(1);
        due("a might of 0", x.toSlander(0), NONE);
        x.hand(1, 0);
        due("a might of 1", x.toSlander(0), 0);
        x.praise(0, 1);
        due("1 less", x.toSlander(0), 1);
    }

    private static void toWait() {
        String start = "box 45 0;bearer 40 1 under 0;falls 0;talk 0-9*(day=";
        due("0", told("box 40 0;bearer 40 1 under 0;").toWait(0), 0);
        due("1", told(start + "0);").toWait(0), 1);
        due("40", told(start + "39);").toWait(0), 40);
        due("none", told(start + "40);").toWait(0), NONE);
        due("nobody", told("box 1 0;bearer 40 1;").toWait(0), NONE);
    }

    private static void ways() {
        BoxBearers x = told("towns 5;road 0 1 9;road 0 2 0;road 2 3 0;road 3 1 0;");
        due("fewest stairs by more roads", x.way(0, 1, 0), 0);
        due("back", x.way(1, 0, 0), 0);
        due("fewest roads", x.way(0, 1, 1), 1);
        due("two roads", x.way(0, 3, 1), 2);
        due("the least that the most can be", x.way(0, 1, 2), 0);
        for (int what = 0; what < 3; what++) {
            due("none", x.way(0, 4, what), NONE);
            due("none the other way", x.way(4, 0, what), NONE);
            due("to itself", x.way(1, 1, what), 0);
            due("to itself without roads", x.way(4, 4, what), 0);
        }
        String row = "towns 8;road 7 6 9;road 6 5 9;road 5 4 9;road 4 3 9;road 3 2 9;road 2 1 9;road 1 0 9;";
        due("seven roads", told(row).way(0, 7, 1), 7);
        due("all their stairs", told(row).way(0, 7, 0), 63);
        due("all their stairs back", told(row).way(7, 0, 0), 63);
        due("the steepest", told(row).way(0, 7, 2), 9);
        String turned = "towns 8;road 1 0 9;road 2 1 9;road 3 2 9;road 4 3 9;road 5 4 9;road 6 5 9;road 7 6 8;";
        due("seven roads", told(turned).way(7, 0, 1), 7);
        due("stairs", told(turned).way(0, 7, 0), 62);
    }

    private static void steepest() {
        BoxBearers x = told("road 0 1 7;road 1 3 1;road 0 2 5;road 2 3 6;");
        due("6 by the way of 5 and 6, not 7", x.way(0, 3, 2), 6);
        due("though 7 and 1 are fewer", x.way(0, 3, 0), 8);
        due("another one", x.way(1, 2, 2), 6);
        due("a road of its own", x.way(0, 2, 2), 5);
    }

    public static void main(String[] args) {
        sentence("(If only DAYS go by, from now on:)", AheadBoundariesTest::onlyDays);
        sentence("THEN, behind so many DAYS (0 to 40): WEIGHT of a BOX, its TOWN, who is under it (bits), whether it is BORNE; "
            + "how TIRED a BEARER is, under which BOX.", AheadBoundariesTest::thenDays);
        sentence("THEN, behind so many DAYS (0 to 40)", AheadBoundariesTest::thenBehindTheLastDay);
        sentence("FALLEN: behind how many DAYS (1 to 40) a BOX is let FALL first; none.", AheadBoundariesTest::fallen);
        sentence("RESTS: behind how many DAYS (0 to 40) a BOX isn't BORNE first; none.", AheadBoundariesTest::rests);
        sentence("MEET: behind how many DAYS (0 to 40) two BOXES are in one TOWN first; none.", AheadBoundariesTest::meet);
        sentence("HEAVIEST behind so many DAYS (0 to 40; of like ones the least); none.", AheadBoundariesTest::heaviest);
        sentence("CALLS of a TOWN in so many DAYS (0 to 40): BOXES that are there now, or behind one of them, as bits.",
            AheadBoundariesTest::calls);
        sentence("TO BEAR ALL: by how few of all BEARERS (MIGHT as it is now, whoever is under which) all BOXES could be BORNE, "
            + "no one under two of them: how many", AheadBoundariesTest::toBearAll);
        sentence("who is under the i-th: of like ones the first row (by BOXES: least bits); none.", AheadBoundariesTest::firstRow);
        sentence("A CREW for a BOX: the BEARERS by whom it would be BORNE with least 'lean' (nobody else under it; of like ones "
            + "the fewest; of as few the least as bits); none.", AheadBoundariesTest::crew);
        sentence("without it not being BORNE any more, as bits (0, if it isn't).", AheadBoundariesTest::needed);
        sentence("so that it is BORNE by those under it (0: it is); none (nobody's MIGHT is 1 or more).",
            AheadBoundariesTest::toSlander);
        sentence("TO WAIT: behind how many DAYS (0 to 40) it is BORNE first; none.", AheadBoundariesTest::toWait);
        sentence("A WAY between two TOWNS: the fewest STAIRS of all ROADS of it together; none. ROADS between two: the fewest; none.",
            AheadBoundariesTest::ways);
        sentence("STEEPEST: the least that the most STAIRS of one ROAD of a WAY between two can be; none.",
            AheadBoundariesTest::steepest);
        end("AheadBoundariesTest", args);
    }
}
