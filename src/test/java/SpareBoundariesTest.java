/** The boundary cases of the document's Terms, part 5: spare, idle, nearest, load and the like. */
public final class SpareBoundariesTest extends Checks {
    private static void spare() {
        due("just so", told("box 20 0;bearer 20 1 under 0;").box(0, 4), 0);
        due("more", told("box 19 0;bearer 20 1 under 0;").box(0, 4), 1);
        due("too little", told("box 21 0;bearer 20 1 under 0;").box(0, 4), -1);
        due("nobody", told("box 99 0;bearer 20 1;").box(0, 4), -99);
        due("most", told("box 1 0;" + "bearer 40 1 under 0;".repeat(8)).box(0, 4), 319);
    }

    private static void idle() {
        due("all", told("bearer 1 1;".repeat(8)).count(6), 255);
        due("none there", told("box 1 0;").count(6), 0);
        due("none idle", told("box 1 0;bearer 1 1 under 0;").count(6), 0);
        due("the last", told("box 1 0;bearer 1 1 under 0;bearer 1 1;").count(6), 2);
    }

    private static void strongestAndTallest() {
        BoxBearers x = told("box 1 0;bearer 40 9 under 0;bearer 9 5;bearer 12 5;bearer 12 4;");
        due("strongest of like ones the least", x.idle(0), 2);
        due("tallest of like ones the least", x.idle(1), 1);
        BoxBearers y = told("box 1 0;bearer 40 9 under 0;");
        due("none", y.idle(0), NONE);
        due("none", y.idle(1), NONE);
        due("no bearers", told("").idle(0), NONE);
        BoxBearers z = told("box 1 0;bearer 2 1 under 0;bearer 4 1 under 0;talk 0;falls 0;");
        z.days(3);
        z.away(0);
        due("one whose might is 0", z.idle(0), 0);
        z.away(1);
        due("of like mights of 0 the least", z.idle(0), 0);
        BoxBearers w = told("box 1 0;bearer 20 1 under 0;bearer 19 1;talk 0;falls 0;");
        w.days(1);
        w.away(0);
        due("by might, not by strength", w.idle(0), 1);
    }

    private static void nearest() {
        BoxBearers x = told("towns 6;road 0 1 9;road 0 2 3;road 2 1 3;road 4 1 6;box 1 3;box 1 0;box 1 4;box 1 1;");
        due("there itself", x.nearest(3), 0);
        due("fewest stairs of like ones the least", x.nearest(1), 3);
        due("of like ones by two roads", x.nearest(2), 1);
        due("by stairs, not by roads", told("road 0 1 9;road 0 2 4;road 2 3 4;box 1 1;box 1 3;").nearest(0), 1);
        due("none", x.nearest(5), NONE);
        due("of like ones the least", told("road 0 1 4;road 0 2 4;box 1 2;box 1 1;").nearest(0), 0);
        due("no boxes", told("").nearest(0), NONE);
        BoxBearers y = told("road 0 1 4;box 1 0 3;bearer 40 1 under 0;");
        y.days(1);
        due("from where it is", y.nearest(1), NONE);
    }

    private static void load() {
        String three = "bearer 1 1 under 0;bearer 1 1 under 0;bearer 1 1 under 0;bearer 1 1;";
        due("cut down", told("box 20 0;" + three).bearer(0, 5), 6);
        due("just so", told("box 21 0;" + three).bearer(2, 5), 7);
        due("less than one", told("box 2 0;" + three).bearer(0, 5), 0);
        due("under none", told("box 20 0;" + three).bearer(3, 5), 0);
        due("alone", told("box 99 0;bearer 1 1 under 0;").bearer(0, 5), 99);
    }

    private static void carried() {
        BoxBearers x = told("box 1 0;box 1 0;box 99 0;bearer 40 1 under 0;bearer 40 1 under 1;bearer 1 1 under 2;talk 0;falls 0;");
        due("in 0", x.later(0, 1), 0);
        due("in 1", x.later(1, 1), 2);
        due("in 40", x.later(40, 1), 80);
        x.days(5);
        due("from now on", x.later(1, 1), 2);
        due("without boxes", told("").later(40, 1), 0);
        illegal("days", days -> x.later(days, 1), 0, 40);
    }

    private static void pairs() {
        due("none", told("").count(8), 0);
        due("one bearer", told("bearer 1 1;").count(8), 0);
        due("unlike ones", told("bearer 1 1;bearer 1 2;").count(8), 0);
        due("one pair", told("bearer 1 2;bearer 9 2;").count(8), 1);
        due("three of one height", told("bearer 1 2;bearer 9 3;bearer 9 2;bearer 9 2;").count(8), 3);
        due("all eight", told("bearer 1 9;".repeat(8)).count(8), 28);
    }

    private static void ahead() {
        BoxBearers x = told("box 1 0 1 0 2 3 1;bearer 40 1 under 0;talk 0;falls 0;");
        due("there", x.ahead(0, 0), 0);
        due("next", x.ahead(0, 1), 1);
        due("4", x.ahead(0, 3), 4);
        x.days(1);
        due("the nearer of two", x.ahead(0, 0), 1);
        due("there", x.ahead(0, 1), 0);
        x.days(3);
        due("5, round its route", x.ahead(0, 2), 5);
        due("round its route to the first one", x.ahead(0, 0), 2);
        due("not on its route", told("box 1 0 1;").ahead(0, 2), NONE);
        due("a route of one", told("box 1 3;").ahead(0, 3), 0);
        due("one that isn't borne too", told("box 99 0 1 2;").ahead(0, 2), 2);
        due("5", told("box 1 0 1 0 1 0 2;").ahead(0, 2), 5);
    }

    private static void alone() {
        BoxBearers x = told("box 20 0;box 1 0;bearer 20 1 under 1;bearer 19 1 under 0;bearer 21 1;");
        due("just strong enough", x.alone(0), 5);
        due("all", x.alone(1), 7);
        due("nobody", told("box 99 0;" + "bearer 40 1 under 0;".repeat(8)).alone(0), 0);
        due("no bearers", told("box 1 0;").alone(0), 0);
        due("all eight", told("box 1 0;" + "bearer 1 1;".repeat(8)).alone(0), 255);
        BoxBearers y = told("box 20 0;bearer 20 1 under 0;talk 0;falls 0;");
        y.days(1);
        due("by might", y.alone(0), 0);
    }

    private static void weariest() {
        BoxBearers x = told("box 20 0;box 20 0;bearer 1 1;bearer 40 1 under 0;bearer 21 1 under 1;talk 0;falls 0;");
        due("nobody is tired: the least", x.weariest(0), 0);
        due("of like ones the least", x.weariest(1), 1);
        due("behind 40", x.weariest(40), 1);
        due("the last", told("box 1 0;bearer 1 1;bearer 9 1 under 0;").weariest(1), 1);
        due("none", told("box 1 0;").weariest(0), NONE);
        due("none behind 40", told("").weariest(40), NONE);
        illegal("days", days -> x.weariest(days), 0, 40);
        illegal("days without bearers", days -> told("").weariest(days), 0, 40);
        BoxBearers y = told("box 49 0;bearer 1 1;bearer 40 1 under 0;falls 0;talk 0-9*(day=39);");
        due("behind 39", y.weariest(39), 0);
        due("on the 40th", y.weariest(40), 1);
    }

    private static void onRoutes() {
        BoxBearers x = told("box 1 0 1 2 3 0 1;box 1 3;box 1 1 3;");
        due("0", x.onRoutes(0), 1);
        due("1", x.onRoutes(1), 5);
        due("the last of a route", x.onRoutes(3), 7);
        due("none", told("box 1 0;").onRoutes(1), 0);
        due("no boxes", told("").onRoutes(0), 0);
        due("all six", told("box 1 2;".repeat(6)).onRoutes(2), 63);
    }

    private static void reach() {
        due("itself without roads", told("towns 8;").reach(7), 128);
        due("by a road of 0 stairs", told("road 0 1 0;").reach(1), 3);
        String row = "towns 8;road 7 6 9;road 6 5 9;road 5 4 9;road 4 3 9;road 3 2 9;road 2 1 9;road 1 0 9;";
        due("all eight", told(row).reach(0), 255);
        due("all eight back", told(row).reach(7), 255);
        due("two parts", told("road 0 2 1;road 3 1 1;").reach(3), 10);
    }

    private static void total() {
        BoxBearers x = told("box 99 0;".repeat(6) + "talk 0-1*(day=39);falls 0;");
        due("0", x.total(0), 594);
        due("39", x.total(39), 594);
        due("40", x.total(40), 588);
        due("no boxes", told("").total(40), 0);
        illegal("days", days -> x.total(days), 0, 40);
        illegal("days without boxes", days -> told("").total(days), 0, 40);
    }

    public static void main(String[] args) {
        sentence("SPARE of a BOX: MIGHT of those under it together less WEIGHT (below 0: too little).", SpareBoundariesTest::spare);
        sentence("IDLE: BEARERS under no BOX, as bits.", SpareBoundariesTest::idle);
        sentence("STRONGEST, TALLEST of these (of like ones the least); none.", SpareBoundariesTest::strongestAndTallest);
        sentence("NEAREST to a TOWN: the BOX from where it is to which there is A WAY of fewest STAIRS (of like ones the least); none.",
            SpareBoundariesTest::nearest);
        sentence("LOAD of a BEARER: WEIGHT of the BOX by how many are under it, cut down (0: under none).", SpareBoundariesTest::load);
        sentence("CARRIED in so many DAYS (0 to 40), if only these go by: how often some BOX is carried on.",
            SpareBoundariesTest::carried);
        sentence("PAIRS of BEARERS of one HEIGHT: how many.", SpareBoundariesTest::pairs);
        sentence("AHEAD: how many DAYS a BOX would have to be carried on from now until it is in a TOWN (0 to 5); none, "
            + "if that isn't on its ROUTE.", SpareBoundariesTest::ahead);
        sentence("ALONE: BEARERS by each of whom alone a BOX would be BORNE (nobody else under it), as bits.",
            SpareBoundariesTest::alone);
        sentence("WEARIEST behind so many DAYS (0 to 40), if only these go by: who is most TIRED (of like ones the least); none.",
            SpareBoundariesTest::weariest);
        sentence("ON ROUTES: BOXES on whose ROUTE a TOWN is, as bits.", SpareBoundariesTest::onRoutes);
        sentence("REACH of a TOWN: TOWNS to which there is A WAY from it (itself, too), as bits.", SpareBoundariesTest::reach);
        sentence("TOTAL behind so many DAYS (0 to 40): WEIGHT of all BOXES.", SpareBoundariesTest::total);
        end("SpareBoundariesTest", args);
    }
}
