/** The boundary cases of the document's Terms, part 4: what was seen, rain, the game, years, status. */
public final class SeenBoundariesTest extends Checks {
    private static final String STEADY = "talk 0;falls 0;";

    private static void seen() {
        BoxBearers x = told(TRIO);
        for (int i = 1; i <= 8; i++) {
            due("the " + i + "th", x.see(0, i, i), i);
        }
        due("the 9th", x.see(0, 1, 1), NONE);
        due("8 stay", x.count(10), 8);
        BoxBearers y = told(TRIO);
        due("weight 1 behind 0 days", y.see(1, 0, 1), 1);
        due("weight 99 behind 12 days", y.see(1, 12, 99), 2);
        due("weight 0", y.see(1, 0, 0), NONE);
        due("weight 100", y.see(1, 0, 100), NONE);
        due("-1 days", y.see(1, -1, 1), NONE);
        due("13 days", y.see(1, 13, 1), NONE);
        due("2 stay", y.count(10), 2);
    }

    /** By see() how many weights there could be, the first, and whether it is so without. */
    private static void weighs(String text, int[][] seen, int many, int first, int without) {
        BoxBearers x = told(text);
        for (int[] one : seen) {
            x.see(one[0], one[1], one[2]);
        }
        String what = text + java.util.Arrays.deepToString(seen);
        due("how many by " + what, x.weighed(0), many);
        due("the first by " + what, x.weighed(1), first);
        due("without by " + what, x.weighed(2), without);
    }

    private static void weighed() {
        weighs("box 50 0;" + STEADY, new int[][] {{0, 0, 1}}, 1, 1, 0);
        weighs("box 50 0;" + STEADY, new int[][] {{0, 12, 99}}, 1, 99, 0);
        weighs("box 50 0;" + STEADY, new int[][] {{0, 0, 3}, {0, 12, 3}}, 1, 3, 0);
        weighs("box 50 0;" + STEADY, new int[][] {{0, 0, 3}, {0, 12, 4}}, 0, NONE, 0);
        weighs("box 50 0;talk 1;", new int[][] {{0, 12, 99}}, 13, 87, 0);
        weighs("box 50 0;talk 1;", new int[][] {{0, 12, 62}}, 0, NONE, 1);
        weighs("box 50 0;talk 0-1;", new int[][] {{0, 12, 1}}, 13, 1, 0);
        weighs("box 50 0;talk day=11;", new int[][] {{0, 11, 7}, {0, 12, 8}}, 1, 7, 0);
        weighs("box 50 0;talk day=12;", new int[][] {{0, 11, 7}, {0, 12, 8}}, 0, NONE, 0);
        weighs("box 60 0;box 50 0;" + STEADY, new int[][] {{1, 0, 1}}, 1, 101, 0);
        weighs("box 60 0;box 50 0;" + STEADY, new int[][] {{1, 0, 99}}, 1, 199, 0);
        weighs("box 1 0;".repeat(5) + "box 9 0;" + STEADY, new int[][] {{5, 0, 99}}, 1, 599, 0);
        // Of two boxes that both aren't as seen no single weight mends both.
        weighs("box 60 0;box 50 0;" + STEADY, new int[][] {{0, 0, 61}, {1, 0, 51}}, 0, NONE, 0);
        weighs("box 60 0;box 50 0;" + STEADY, new int[][] {{0, 0, 60}, {1, 0, 51}}, 1, 151, 0);
    }

    private static void anotherOne() {
        weighs("box 50 0;" + STEADY, new int[][] {{0, 0, 50}}, 0, NONE, 1);
        weighs("box 50 0;", new int[][] {}, 98, 1, 1);
        weighs("box 1 0;", new int[][] {}, 98, 2, 1);
        weighs("box 99 0;", new int[][] {}, 98, 1, 1);
        weighs("box 60 0;box 50 0;" + STEADY, new int[][] {{0, 0, 60}}, 98, 101, 1);
        weighs("box 60 0;box 50 0;" + STEADY, new int[][] {{0, 0, 60}, {1, 0, 50}}, 0, NONE, 1);
        weighs("box 1 0;".repeat(6), new int[][] {}, 588, 2, 1);
        weighs("", new int[][] {}, 0, NONE, 1);
    }

    private static void byNow() {
        BoxBearers x = told("box 50 0;talk 1;");
        x.see(0, 2, 52);
        due("so", x.weighed(2), 1);
        x.days(1);
        due("behind 2 days from now on it isn't", x.weighed(2), 0);
        due("50 now", x.weighed(1), 50);
        x.undo();
        due("so again", x.weighed(2), 1);
    }

    private static void letFall() {
        // Weights that are too much for 20 aren't let fall; 20 and less are half on the first day.
        String text = "box 30 0;bearer 20 1 under 0;talk 0;falls borne;";
        weighs(text, new int[][] {{0, 1, 10}}, 1, 20, 0);
        weighs(text, new int[][] {{0, 1, 21}}, 1, 21, 0);
        weighs(text, new int[][] {{0, 1, 9}}, 2, 18, 0);
        weighs(text, new int[][] {{0, 1, 1}}, 3, 1, 0);
    }

    private static void look() {
        due("half on the 5th day", told("box 50 0;talk 0;falls day=4;").look(1), 49);
        due("not yet half", told("box 50 0;talk 0;falls day=5;").look(1), 98);
        due("the box", told("box 50 0;talk 0;falls day=4;").look(0), 0);
        due("of like ones the least", told("box 50 0;box 60 0;" + STEADY).look(0), 0);
        due("with its own weight by the other one", told("box 50 0;box 60 0;" + STEADY).look(1), 99);
        BoxBearers x = told("box 50 0;box 60 0;box 70 0;" + STEADY);
        x.see(0, 0, 50);
        due("the first that may be otherwise", x.look(0), 1);
        x.see(1, 0, 61);
        due("all have one weight", x.look(0), 0);
        due("one", x.look(1), 1);
        x.see(2, 0, 71);
        due("none without any", x.look(0), NONE);
        due("0", x.look(1), 0);
        due("no boxes", told("").look(0), NONE);
        due("no boxes: 0", told("").look(1), 0);
        BoxBearers y = told("box 50 0;" + STEADY);
        y.see(0, 0, 50);
        due("so without, but by none else", y.look(0), NONE);
        due("0", y.look(1), 0);
    }

    private static void rainDays() {
        BoxBearers x = told("box 1 0;bearer 40 1 under 0;bearer 40 1;" + STEADY);
        int power = 1;
        for (int days = 1; days <= 5; days++) {
            power *= 10;
            for (int tenths = 0; tenths <= 10; tenths++) {
                due("for sure in " + days + " by " + tenths, x.rain(0, days, tenths), power);
            }
        }
        illegal("days", days -> x.rain(0, days, 5), 1, 5);
        illegal("tenths", tenths -> x.rain(0, 1, tenths), 0, 10);
    }

    private static void rainTires() {
        BoxBearers x = told("box 18 0;bearer 20 1 under 0;" + STEADY);
        due("no rain", x.rain(0, 1, 0), 10);
        due("one tenth", x.rain(0, 1, 1), 9);
        due("nine tenths", x.rain(0, 1, 9), 1);
        due("rain for sure", x.rain(0, 1, 10), 0);
        // A wet day is one on which 18 can't carry 19: only a wet second day is too much.
        BoxBearers y = told("box 19 0;bearer 20 1 under 0;talk 0-3*(day=1);falls 0;");
        due("ahead of the day", y.rain(0, 2, 3), 70);
        BoxBearers z = told("box 22 0;bearer 40 1 under 0;" + STEADY);
        z.days(9);
        due("9 at most", z.rain(0, 5, 10), 100000);
        BoxBearers w = told("box 24 0;bearer 40 1 under 0;" + STEADY);
        w.days(8);
        due("no rain: 9 then", w.rain(0, 1, 0), 0);
        w.undo();
        w.days(7);
        due("from 7 to 8 without rain", w.rain(0, 1, 2), 8);
        BoxBearers v = told("box 18 0;box 18 0;bearer 20 1 under 0;bearer 20 1 under 1;" + STEADY);
        due("under any box", v.rain(1, 1, 4), 6);
        due("nobody under it", told("box 1 0;bearer 40 1;").rain(0, 5, 0), 0);
    }

    private static void power() {
        // Borne behind the days, if each of them is dry.
        int[][] rows = {{18, 1, 3, 7}, {16, 2, 3, 49}, {14, 3, 3, 343}, {12, 4, 3, 2401}, {10, 5, 3, 16807}, {10, 5, 0, 100000},
            {10, 5, 10, 0}, {10, 5, 9, 1}, {10, 5, 1, 59049}};
        for (int[] row : rows) {
            BoxBearers x = told("box " + row[0] + " 0;bearer 20 1 under 0;" + STEADY);
            due("of weight " + row[0] + " in " + row[1] + " by " + row[2], x.rain(0, row[1], row[2]), row[3]);
        }
    }

    private static void eachChoice() {
        BoxBearers x = told("box 9 0;bearer 9 1 under 0;bearer 9 1 under 0;bearer 9 1;" + STEADY);
        due("nothing is taken away by asking", x.game(0, 1, 0), 3);
        due("both are under it", x.box(0, 2), 3);
        BoxBearers y = told("box 9 0;bearer 30 1 under 0;bearer 30 1 under 0;" + STEADY);
        y.days(9);
        due("1 and 1", y.game(0, 1, 1), 11);
        due("0 and 0", x.game(0, 1, 1), 0);
    }

    private static void gains() {
        String two = "bearer 40 1 under 0;bearer 40 1 under 0;" + STEADY;
        BoxBearers both = told("box 60 0;" + two);
        due("both are needed: both stay or both go", both.game(0, 1, 0), 2);
        due("both stay", both.game(0, 1, 1), 0);
        both.days(4);
        due("tired 4: staying is as good", both.game(0, 1, 0), 2);
        due("both stay", both.game(0, 1, 1), 0);
        both.days(1);
        due("tired 5: both go", both.game(0, 1, 0), 1);
        due("both go", both.game(0, 1, 1), 11);
        BoxBearers each = told("box 1 0;" + two);
        due("not tired: all but that both go", each.game(0, 1, 0), 3);
        due("both stay", each.game(0, 1, 1), 0);
        each.days(1);
        due("tired: one of them goes", each.game(0, 1, 0), 2);
        due("the other one", each.game(0, 1, 1), 1);
        each.days(3);
        due("tired 4: also that both go", each.game(0, 1, 0), 3);
        due("the other one", each.game(0, 1, 1), 1);
        each.days(1);
        due("tired 5: both go", each.game(0, 1, 1), 11);
    }

    private static void unlikeOnes() {
        BoxBearers x = told("box 1 0;bearer 40 1 under 0;bearer 40 1;" + STEADY);
        x.days(5);
        x.hand(1, 0);
        due("only the tired one goes", x.game(0, 1, 0), 1);
        due("10 by the first one's", x.game(0, 1, 1), 10);
        due("and the other one's", x.game(1, 0, 1), 1);
        BoxBearers y = told("box 40 0;bearer 40 1 under 0;bearer 39 1 under 0;bearer 1 1 under 0;" + STEADY);
        due("just now borne with the third", y.game(0, 1, 0), 3);
        y.praise(0, 1);
        due("not by the second and the third", y.game(1, 0, 0), 2);
        due("borne by nobody", told("box 99 0;bearer 9 1 under 0;bearer 9 1 under 0;").game(0, 1, 0), 4);
    }

    private static void notUnderOne() {
        BoxBearers x = told("box 1 0;box 1 0;bearer 9 1 under 0;bearer 9 1 under 1;bearer 9 1;bearer 9 1;bearer 9 1 under 0;");
        for (int what = 0; what < 2; what++) {
            due("under two", x.game(0, 1, what), NONE);
            due("one under none", x.game(0, 2, what), NONE);
            due("the other one under none", x.game(2, 0, what), NONE);
            due("both under none", x.game(2, 3, what), NONE);
        }
        due("under one", x.game(0, 4, 1), 0);
    }

    /** Falls, weight and how many are borne by a seed. */
    private static void years(String text, int seed, int n, int... want) {
        BoxBearers x = told(text);
        for (int what = 0; what < 3; what++) {
            due("what " + what + " by " + seed + " in " + n, x.years(seed, n, what), want[what]);
        }
    }

    private static void yearsOfDays() {
        years(TRIO, 5, 0, 0, 50, 1);
        years(TRIO, 5, 1, 0, 48, 0);
        years(TRIO, 5, 40, 1, 6, 0);
        BoxBearers x = told(TRIO);
        illegal("n", n -> x.years(5, n, 0), 0, 40);
        years("box 10 0;bearer 1 1;talk 0;falls day=39;", 3, 40, 1, 7, 0);
        years("box 10 0;bearer 1 1;talk 0;falls day=40;", 3, 40, 0, 15, 0);
        years("box 99 0;box 99 0;bearer 1 1;talk 9;falls 1;", 3, 1, 2, 98, 0);
    }

    /** What is drawn by these seeds is worked out by hand; behind it a day goes by. */
    private static void drawnHands() {
        years(TRIO, 47, 1, 0, 52, 2);
        years(TRIO, 0, 1, 0, 50, 1);
        years(TRIO, 23, 1, 0, 48, 0);
        years(TRIO, 10, 1, 0, 50, 1);
    }

    private static void drawnWeights() {
        years(TRIO, 1, 1, 0, 46, 1);
        years(TRIO, 2, 1, 0, 40, 1);
        years(TRIO, 30, 1, 0, 51, 0);
        years(TRIO, 16, 1, 0, 60, 1);
        years(TRIO, 8, 1, 0, 50, 1);
        years(TRIO, 4, 1, 0, 50, 1);
        String edges = "box 95 0;box 95 0;bearer 1 1;bearer 1 1;bearer 1 1;talk 0;";
        years(edges, 16, 1, 0, 194, 0);
        years(edges.replace("95", "5"), 2, 1, 0, 6, 0);
    }

    private static void seeds() {
        years(TRIO, 0, 40, 0, 7, 0);
        years(TRIO, 1, 40, 2, 3, 0);
        years(TRIO, -1, 40, 1, 31, 1);
        years(TRIO, 77, 40, 0, 15, 0);
        years(TRIO, 1234567, 40, 0, 22, 1);
        // Of these seeds the lowest 31 bits are like, and no other bit is ever drawn.
        years(TRIO, Integer.MAX_VALUE, 40, 1, 31, 1);
        years(TRIO, Integer.MIN_VALUE, 40, 0, 7, 0);
        years(TRIO, -1, 5, 0, 41, 0);
        years(TRIO, 1, 12, 0, 48, 1);
    }

    private static void drawsAlone() {
        years("", 1, 40, 0, 0, 0);
        years("bearer 9 9;", 1, 40, 0, 0, 0);
        years("box 90 0;talk 0;falls 0;", 1, 40, 0, 90, 0);
        years("box 90 0;talk 0;falls 0;", 16, 40, 0, 90, 0);
        years("box 9 0;falls 1;", 1, 40, 40, 1, 0);
    }

    private static void status() {
        BoxBearers x = told(TRIO);
        tell(x, "box;");
        due("a text with a fault", x.count(12) * 100 + x.count(13) * 10 + x.count(14), 100);
        x.days(0);
        due("an act", x.count(12) * 100 + x.count(13) * 10 + x.count(14), 110);
        x.see(0, 13, 1);
        due("what is seen", x.count(12) * 100 + x.count(13) * 10 + x.count(14), 111);
        x.days(1);
        x.see(0, 1, 1);
        x.undo();
        x.undo();
        x.restore();
        due("what isn't refused doesn't count", x.count(12) * 100 + x.count(13) * 10 + x.count(14), 111);
        tell(x, "");
        due("it stays behind a land", x.count(12) * 100 + x.count(13) * 10 + x.count(14), 111);
    }

    public static void main(String[] args) {
        sentence("SEEN (at most 8): WEIGHT (1 to 99) of a BOX behind so many DAYS (0 to 12).", SeenBoundariesTest::seen);
        sentence("by one of which now all SEEN would be so: how many; the first (100 by the BOX, and WEIGHT); "
            + "whether it is so without (1).", SeenBoundariesTest::weighed);
        sentence("WEIGHED: BOXES and WEIGHTS (1 to 99, another one than it has)", SeenBoundariesTest::anotherOne);
        sentence("by one of which now all SEEN would be so", SeenBoundariesTest::byNow);
        sentence("would be so: how many", SeenBoundariesTest::letFall);
        sentence("LOOK NEXT: the BOX of which WEIGHT behind 5 DAYS by these would be most unlike (of like ones the least): "
            + "how many; none without any.", SeenBoundariesTest::look);
        sentence("RAIN: on each of so many DAYS (1 to 5) it rains with so many tenths (0 to 10)", SeenBoundariesTest::rainDays);
        sentence("ahead of the DAY all BEARERS under a BOX are 1 more TIRED (9 at most)", SeenBoundariesTest::rainTires);
        sentence("how likely a BOX is BORNE behind them: as so many of 10 to the power of these DAYS.", SeenBoundariesTest::power);
        sentence("A GAME of two BEARERS under one BOX: each takes the HAND AWAY now, or not (1, 0)", SeenBoundariesTest::eachChoice);
        sentence("each gains 4, if that BOX is BORNE then (just now), less 1 for each that one is TIRED, if one stays.",
            SeenBoundariesTest::gains);
        sentence("A couple RESTS, if neither gains more by the other choice: how many; the first (10 by the first one's and "
            + "the other one's)", SeenBoundariesTest::unlikeOnes);
        sentence("none, if they aren't under one BOX.", SeenBoundariesTest::notUnderOne);
        sentence("YEARS by a seed: n DAYS (0 to 40) from now on", SeenBoundariesTest::yearsOfDays);
        sentence("ahead of each a DRAW of 6: 0 a DRAW of BEARERS puts a HAND under a DRAW of BOXES, 1 a DRAW of BEARERS takes it "
            + "AWAY, if one has it there", SeenBoundariesTest::drawnHands);
        sentence("2 SLANDER of a DRAW of BOXES by a DRAW of 10 and 1, 3 PRAISE of a DRAW of BOXES by a DRAW of 10 and 1: how often "
            + "a BOX was let FALL in these DAYS, all together; WEIGHT of all at the end; how many are BORNE.",
            SeenBoundariesTest::drawnWeights);
        sentence("A seed becomes itself times 1103515245 and 12345 (an int that wraps); a DRAW of n is its bits 16 to 30 MOD n then.",
            SeenBoundariesTest::seeds);
        sentence("(Without BOXES, or without BEARERS, the DRAWS of 6 alone.)", SeenBoundariesTest::drawsAlone);
        sentence("STATUS: how many calls were refused: 0 of TEXTS with a FAULT, 1 of ACTS, 2 of what is SEEN.",
            SeenBoundariesTest::status);
        end("SeenBoundariesTest", args);
    }
}
