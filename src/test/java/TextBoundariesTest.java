/** The boundary cases of the document's Terms, part 1: texts, rules and their faults. */
public final class TextBoundariesTest extends Checks {
    private static String roads(int many) {
        StringBuilder text = new StringBuilder("towns 8;");
        int told = 0;
        for (int from = 0; from < 7; from++) {
            for (int to = from + 1; to < 8 && told < many; to++) {
                text.append("road ").append(from).append(' ').append(to).append(" 1;");
                told++;
            }
        }
        return text.toString();
    }

    private static void towns() {
        due("2", told("towns 2;").count(0), 2);
        due("8", told("towns 8;").count(0), 8);
        due("4 without", told("box 1 3;bearer 1 1;").count(0), 4);
        faultOf("towns 1;", 2, 6);
        faultOf("towns 0;", 2, 6);
        faultOf("towns 9;", 2, 6);
        faultOf("towns 9999;", 2, 6);
        due("from 0 to 7", told("towns 8;box 1 0 7;").onRoutes(7), 1);
        dueThrow("of 2 there is no third", () -> told("towns 2;").reach(2), NO_SUCH);
    }

    private static void roads() {
        due("14", told(roads(14)).count(1), 14);
        due("none", told("towns 8;").count(1), 0);
        faultOf(roads(15), 2, 8 + 14 * 11);
        faultOf(roads(14) + "road;", 2, 8 + 14 * 11);
        noFault(roads(14) + "box 1 0;");
    }

    private static void stairs() {
        due("0", told("road 0 1 0;").way(0, 1, 0), 0);
        due("9", told("road 0 1 9;").way(0, 1, 0), 9);
        faultOf("road 0 1 10;", 2, 9);
        faultOf("road 0 1 9999;", 2, 9);
    }

    private static void boxes() {
        due("6", told("box 1 0;".repeat(6)).count(2), 6);
        due("none", told("towns 4;").count(2), 0);
        faultOf("box 1 0;".repeat(7), 2, 48);
        faultOf("box 1 0;".repeat(6) + "box", 2, 48);
        due("the 6th", told("box 1 0;".repeat(5) + "box 7 3;").box(5, 0), 7);
    }

    private static void weight() {
        due("1", told("box 1 0;").box(0, 0), 1);
        due("99", told("box 99 0;").box(0, 0), 99);
        faultOf("box 0 0;", 2, 4);
        faultOf("box 100 0;", 2, 4);
    }

    private static void route() {
        due("1", told("box 1 0;").box(0, 5), 1);
        due("6", told("box 1 0 1 2 3 2 1;").box(0, 5), 6);
        faultOf("box 1;", 1, 5);
        faultOf("box 1 0 1 2 3 2 1 0;", 2, 18);
        noFault("box 1 0 1 2 3 2 1;box 1 0 1 2 3 2 1;");
    }

    private static void bearers() {
        due("8", told("bearer 1 1;".repeat(8)).count(3), 8);
        due("none", told("").count(3), 0);
        faultOf("bearer 1 1;".repeat(9), 2, 88);
        faultOf("bearer 1 1;".repeat(8) + "bearer", 2, 88);
        due("the 8th", told("bearer 1 1;".repeat(7) + "bearer 9 2;").bearer(7, 0), 9);
    }

    private static void strength() {
        due("1", told("bearer 1 1;").bearer(0, 0), 1);
        due("40", told("bearer 40 1;").bearer(0, 0), 40);
        faultOf("bearer 0 1;", 2, 7);
        faultOf("bearer 41 1;", 2, 7);
    }

    private static void height() {
        due("1", told("bearer 1 1;").bearer(0, 1), 1);
        due("9", told("bearer 1 9;").bearer(0, 1), 9);
        faultOf("bearer 1 0;", 2, 9);
        faultOf("bearer 1 10;", 2, 9);
    }

    private static void handAtFirst() {
        BoxBearers x = told("box 1 0;box 1 0;bearer 1 1;bearer 1 1 under 1;bearer 1 1 under 0;");
        due("without", x.bearer(0, 2), NONE);
        due("under the last one", x.bearer(1, 2), 1);
        due("under the first one", x.bearer(2, 2), 0);
    }

    private static void longTexts() {
        noFault("towns 5" + " ".repeat(692) + ";");
        faultOf("towns 5" + " ".repeat(693), 1, 700);
        faultOf(" ".repeat(699) + "x", 1, 699);
        String rule = "box 9 0;talk 0" + "+1-1".repeat(170) + "+5   ;";
        due("bytes of a long rule", rule.length(), 700);
        due("a long rule", told(rule).then(0, 1, 0), 14);
    }

    private static void words() {
        noFault("towns3;box5 0;bearer5 5under0;talk 1or weight;");
        faultOf("townsx 3;", 1, 0);
        faultOf("town 3;", 1, 0);
        faultOf("talk weightlean;", 3, 5);
        faultOf("talk weight lean;", 1, 12);
        faultOf("talk a;", 3, 5);
        faultOf("talk z;", 3, 5);
        faultOf("talk `;", 1, 5);
        faultOf("talk {;", 1, 5);
        faultOf("Towns 3;", 1, 0);
        faultOf("talk weighT;", 3, 5);
        faultOf("talk weight_;", 1, 11);
    }

    /** A word is no other word because it is like one but for a letter. */
    private static void everyLetter() {
        String[] starts = {"towns 3;", "road 0 1 1;", "box 1 0;", "bearer 1 1;", "talk 1;", "falls 1;"};
        for (String start : starts) {
            for (int i = 0; i < start.indexOf(' '); i++) {
                faultOf(start.substring(0, i) + 'q' + start.substring(i + 1), 1, 0);
            }
        }
        for (int i = 0; i < 5; i++) {
            faultOf("box 1 0;bearer 1 1 " + "under".substring(0, i) + 'q' + "under".substring(i + 1) + " 0;", 1, 19);
        }
        for (String value : new String[] {"weight", "hands", "might", "lean", "borne", "town", "day", "not"}) {
            for (int i = 0; i < value.length(); i++) {
                faultOf("talk " + value.substring(0, i) + 'q' + value.substring(i + 1) + ";", 3, 5);
            }
        }
        for (String join : new String[] {"or", "and"}) {
            for (int i = 0; i < join.length(); i++) {
                faultOf("talk 1 " + join.substring(0, i) + 'q' + join.substring(i + 1) + " 1;", 1, 7);
            }
        }
    }

    private static void numbers() {
        due("4 digits", told("towns 0008;").count(0), 8);
        due("1 digit", told("towns 8;").count(0), 8);
        faultOf("towns 00008;", 2, 6);
        gives("0009", 9);
        gives("9999-9990", 9);
        faultOf("talk 10000;", 2, 5);
        faultOf("talk 00000;", 2, 5);
        faultOf("talk 99999999999999999999;", 2, 5);
        faultOf("towns 4294967299;", 2, 6);
        faultOf("box 1 4294967296;", 2, 6);
        faultOf("talk :;", 1, 5);
    }

    private static void signs() {
        gives("(9-2)*2/2+(1<2)+(1=1)", 9);
        for (char sign : "!\"#$%&',.:>?@[\\]^_`{|}~".toCharArray()) {
            faultOf("talk 1" + sign + "2;", 1, 6);
            faultOf(sign + "talk 1;", 1, 0);
        }
    }

    private static void blanks() {
        noFault(" \n towns \n\n 3 \n ; \n ");
        noFault("talk\n1\nor\n2\n;\n");
        noFault("   ");
        for (int sign : new int[] {0, 9, 11, 12, 13, 31, 33, 127, 128, 138, 160, 255}) {
            faultOf("towns" + (char) sign + "3;", 1, 5);
        }
        faultOf("to wns 3;", 1, 0);
        faultOf("towns 3 3;", 1, 8);
    }

    private static void lines() {
        noFault("");
        noFault("towns 3;");
        noFault("falls 1;bearer 1 1;talk 1;box 1 0;road 0 1 1;box 1 0;bearer 1 1 under 1;");
        faultOf(";", 1, 0);
        faultOf("towns 3;;", 1, 8);
        faultOf("towns 3", 1, 7);
        faultOf("under 0;", 1, 0);
        faultOf("3;", 1, 0);
    }

    private static void lineParts() {
        faultOf("towns;", 1, 5);
        faultOf("road;", 1, 4);
        faultOf("road 0;", 1, 6);
        faultOf("road 0 1;", 1, 8);
        faultOf("road 0 1 1 1;", 1, 11);
        faultOf("box;", 1, 3);
        faultOf("box 1;", 1, 5);
        faultOf("box 1 x;", 1, 6);
        faultOf("box 1 0 x;", 1, 8);
        faultOf("bearer;", 1, 6);
        faultOf("bearer 1;", 1, 8);
        faultOf("bearer 1 1 1;", 1, 11);
        faultOf("bearer 1 1 under;", 1, 16);
        faultOf("box 1 0;bearer 1 1 under 0 0;", 1, 27);
        faultOf("talk;", 1, 4);
        faultOf("falls;", 1, 5);
        faultOf("towns weight;", 1, 6);
        faultOf("box (1) 0;", 1, 4);
        faultOf("box 1+1 0;", 1, 5);
    }

    private static void ors() {
        gives("0 or 0", 0);
        gives("0 or 7", 1);
        gives("7 or 0", 1);
        gives("7 or 7", 1);
        gives("0 or 0 or 0 or 5", 1);
        gives("1 or 1 and 0", 1);
        gives("7", 7);
        faultOf("talk 1 or;", 1, 9);
        faultOf("talk or 1;", 3, 5);
    }

    private static void ands() {
        gives("0 and 7", 0);
        gives("7 and 0", 0);
        gives("7 and 7", 1);
        gives("7 and 7 and 0", 0);
        gives("not 0 and 0", 0);
        gives("0 and 0 or 1", 1);
        faultOf("talk 1 and;", 1, 10);
        faultOf("talk 1 and or 1;", 3, 11);
    }

    private static void nots() {
        gives("not 0", 1);
        gives("not 7", 0);
        gives("not not 7", 1);
        gives("not 3<2", 1);
        gives("not 0+1", 0);
        gives("not 0=0", 0);
        gives("3<4", 1);
        gives("4<4", 0);
        gives("5<4", 0);
        gives("4=4", 1);
        gives("3=4", 0);
        gives("1+2<2*2", 1);
        gives("2<1 or 3=3 and 1<2", 1);
        faultOf("talk 1<2<3;", 1, 8);
        faultOf("talk 1=1=1;", 1, 8);
        faultOf("talk 1<=1;", 1, 7);
        faultOf("talk not;", 1, 8);
        faultOf("talk 1 not 1;", 1, 7);
    }

    private static void sumsAndProducts() {
        gives("2+3*2", 8);
        gives("(2+3)*2-4", 6);
        gives("9-8/2", 5);
        gives("(7)", 7);
        gives("((weight)-45)", 5);
        faultOf("talk +1;", 1, 5);
        faultOf("talk -1;", 1, 5);
        faultOf("talk 1+-1;", 1, 7);
        faultOf("talk 1+;", 1, 7);
        faultOf("talk 1*;", 1, 7);
        faultOf("talk ();", 1, 6);
        faultOf("talk (1;", 1, 7);
        faultOf("talk (1", 1, 7);
        faultOf("talk 1);", 1, 6);
        faultOf("talk (1)(1);", 1, 8);
        faultOf("talk 2(1);", 1, 6);
    }

    private static void fromTheLeft() {
        gives("9-3-2", 4);
        gives("9-3+2", 8);
        gives("8/2/2", 2);
        gives("8/4*2", 4);
        gives("7/2*2", 6);
        gives("2*7/4", 3);
    }

    private static void wraps() {
        gives("8192*8192*32<0", 1);
        gives("8192*8192*32-1<0", 0);
        gives("0<8192*8192*32-1", 1);
        gives("0-8192*8192*32+1<0", 1);
        gives("8192*8192*64", 0);
        gives("8192*8192*64+5", 5);
        gives("9999*9999*9999<0", 1);
        gives("(8192*8192*32)/(0-1)<0", 1);
        gives("0<0-8192*8192*32-1", 1);
    }

    private static void cutDown() {
        gives("7/2", 3);
        gives("(0-7)/2", -3);
        gives("7/(0-2)", -3);
        gives("(0-7)/(0-2)", 3);
        gives("1/2", 0);
        gives("(0-1)/2", 0);
    }

    private static void byZero() {
        gives("7/0", 0);
        gives("0/0", 0);
        gives("5+7/0", 5);
        gives("(0-7)/(3-3)", 0);
        gives("9/0*3", 0);
    }

    private static void oneOrZero() {
        gives("(3<4)+(4=4)", 2);
        gives("(5<6)*3+(5=5)*2", 5);
        gives("(not 0)*4", 4);
        gives("(9 and 9)*4", 4);
        gives("(9 or 9)*4", 4);
        gives("0-1 and 0-1", 1);
        gives("0 or 0-1", 1);
        gives("not (0-1)", 0);
    }

    /** The land of gives() with another talk: a box of weight 50, hands 2, might 55, lean 3. */
    private static void values() {
        gives("weight-50", 0);
        gives("hands", 2);
        gives("might-50", 5);
        gives("lean", 3);
        gives("borne", 1);
        gives("town", 6);
        gives("day", 0);
        due("the next day", told("box 9 0;talk day*3;").then(0, 3, 0), 18);
        due("town behind a day", told("box 9 1 3;bearer 40 1 under 0;talk town;").then(0, 2, 0), 13);
        due("might of tired ones", told("box 9 0;bearer 11 1 under 0;talk might-9;").then(0, 2, 0), 11);
    }

    private static void leanOfFew() {
        due("of nobody", told("box 9 0;bearer 9 9;talk lean+hands+might+borne;").then(0, 1, 0), 9);
        due("of one", told("box 9 0;bearer 9 9 under 0;talk lean;").then(0, 1, 0), 9);
        due("of two like ones", told("box 9 0;bearer 9 9 under 0;bearer 9 9 under 0;talk lean;").then(0, 1, 0), 9);
        String three = "box 9 0;bearer 9 5 under 0;bearer 9 9 under 0;bearer 9 1 under 0;";
        due("of three", told(three + "talk lean;falls 0;").then(0, 1, 0), 17);
        due("asked", told(three).box(0, 3), 8);
        due("asked of nobody", told("box 9 0;bearer 9 9;").box(0, 3), 0);
    }

    private static void borneAsValue() {
        due("just so", told("box 9 0;bearer 9 1 under 0;talk borne*5;").then(0, 1, 0), 14);
        due("by 1 too heavy", told("box 10 0;bearer 9 1 under 0;talk borne*5;").then(0, 1, 0), 10);
    }

    private static void firstFault() {
        faultOf("towns 9;road 0 0 1;", 2, 6);
        faultOf("road 0 0 1;towns 9;", 4, 7);
        faultOf("box 0 9;", 2, 4);
        faultOf("box 1 9 99999;", 3, 6);
        faultOf("box 1 0;talk x;#", 3, 13);
        faultOf("bearer 0 0;", 2, 7);
        faultOf("talk x+;", 3, 5);
    }

    private static void firstByte() {
        faultOf("   boxes 1 0;", 1, 3);
        faultOf("box  \n 12345 0;", 2, 7);
        faultOf("talk   whatever;", 3, 7);
        faultOf("talk 1;  talk 1;", 5, 9);
        faultOf("road 2 0002 1;", 4, 7);
    }

    private static void leastOfOne() {
        faultOf("towns 3;box 1 0;towns 3;", 4, 16);
        faultOf("box 1 0 0 0 0 0 0 7;", 2, 18);
        faultOf("box 1 0 0 0 0 0 0 12345;", 2, 18);
        faultOf("road 0 12345 1;", 2, 7);
        faultOf("talk 1 12345;", 1, 7);
        faultOf("towns 3 12345;", 1, 8);
        faultOf("12345;", 1, 0);
        faultOf("talk ((((((x))))));", 2, 11);
        faultOf("talk (((((()))))));", 1, 11);
        faultOf("talk ((((((+;", 1, 11);
        faultOf(roads(14) + "towns 8;", 4, 8 + 14 * 11);
    }

    private static void cantStand() {
        String[] lines = {"road 0 1 1;", "box 1 0;", "bearer 1 1 under 0;", "talk 1+weight;", "falls (1)<2;"};
        for (String line : lines) {
            faultOf("box 1 0;" + line.substring(0, line.length() - 1) + "#;", 1, 7 + line.length());
            for (String token : new String[] {"#", "1", "(", "-", "x"}) {
                faultOf("box 1 0;" + token + ' ' + line, 1, 8);
            }
        }
        faultOf("towns 3#;", 1, 7);
        faultOf("towns -3;", 1, 6);
        faultOf("road 0-1 1;", 1, 6);
        faultOf("road 0 (1) 1;", 1, 7);
        faultOf("box 1 0,1;", 1, 7);
        faultOf("bearer 1.5 1;", 1, 8);
        faultOf("bearer 1 1 0;", 1, 11);
        faultOf("talk 1 ! 2;", 1, 7);
        faultOf("talk 1 + + 2;", 1, 9);
        faultOf("talk * 2;", 1, 5);
        faultOf("talk < 2;", 1, 5);
        faultOf("talk = 2;", 1, 5);
        faultOf("talk ) 2;", 1, 5);
        faultOf("talk weight 2;", 1, 12);
        faultOf("talk 2 weight;", 1, 7);
    }

    private static void firstTokens() {
        faultOf(roads(14) + " \n road 8 8 99;", 2, 8 + 14 * 11 + 3);
        faultOf("box 1 0;".repeat(6) + "  box 0 9;", 2, 50);
        faultOf("bearer 1 1;".repeat(8) + "  bearer 0 0 under 9;", 2, 90);
        noFault(roads(14) + "box 1 0;".repeat(6) + "bearer 1 1;".repeat(8));
    }

    private static void underOrNot() {
        noFault("box 1 0;bearer 1 1;bearer 1 1 under 0;");
        faultOf("box 1 0;bearer 1 1 0;", 1, 19);
        faultOf("box 1 0;bearer 1 1 under;", 1, 24);
        faultOf("box 1 0;bearer 1 1 under under;", 1, 25);
        faultOf("box 1 0;bearer 1 1 under 0 under 0;", 1, 27);
        faultOf("box 1 0;bearer 1 under 0;", 1, 17);
    }

    private static void whereAndWhen() {
        due("town 0", told("box 50 0;talk town;").then(0, 1, 0), 50);
        due("town 7", told("towns 8;box 50 7;talk town;").then(0, 1, 0), 57);
        due("day 0", told("box 50 0;talk day;").then(0, 1, 0), 50);
        due("day 1", told("box 50 0;talk day;").then(0, 2, 0), 51);
        BoxBearers x = told("box 50 0;talk day=20;falls day=22;");
        x.days(20);
        due("day 20", x.then(0, 1, 0), 51);
        due("day 22", x.fallen(0), 3);
    }

    private static void endsTooSoon() {
        faultOf("towns", 1, 5);
        faultOf("towns 3", 1, 7);
        faultOf("towns 3 \n ", 1, 10);
        faultOf("road 0 1 ", 1, 9);
        faultOf("talk 1+", 1, 7);
        faultOf("talk (((((1", 1, 11);
        faultOf("talk ((((((", 1, 11);
        faultOf("talk not", 1, 8);
        faultOf("bearer 1 1 under", 1, 16);
        BoxBearers x = new BoxBearers();
        feedText(x, "towns 35;");
        due("cut off by n", x.land(8), 2);
        due("at the number", x.fault(), 6);
        feedText(x, "towns 35;");
        due("cut off within the number", x.land(7), 1);
        due("at the end of what is read", x.fault(), 7);
    }

    private static void fiveDigits() {
        faultOf("towns 00002;", 2, 6);
        faultOf("road 00000 1 1;", 2, 5);
        faultOf("road 0 00001 1;", 2, 7);
        faultOf("road 0 1 00001;", 2, 9);
        faultOf("box 00001 0;", 2, 4);
        faultOf("box 1 00000;", 2, 6);
        faultOf("box 1 0 00000;", 2, 8);
        faultOf("bearer 00001 1;", 2, 7);
        faultOf("bearer 1 00001;", 2, 9);
        faultOf("box 1 0;bearer 1 1 under 00000;", 2, 25);
        faultOf("talk 1+00001;", 2, 7);
        noFault("road 0000 0001 0009;box 0099 0003;bearer 0040 0009 under 0000;talk 0001;");
    }

    private static void notInAnExpr() {
        noFault("talk 9999;falls 0;");
        noFault("talk 100*41;falls (0)+0;");
    }

    private static void seventhTown() {
        faultOf("box 1 0 0 0 0 0 0 0;", 2, 18);
        faultOf("box 1 0 0 0 0 0 0 0 0 0;", 2, 18);
        faultOf("box 1 0 0 0 0 0 9 0;", 3, 16);
        faultOf("box 1 0 0 0 0 0 0 x;", 1, 18);
    }

    private static void within() {
        noFault("talk (((((1)))));");
        noFault("talk (((((1)))))+(((((weight)))))<(((((not 1)))));");
        noFault("falls not (not (not (not (not (not 1)))));");
        faultOf("talk ((((((1))))));", 2, 11);
        faultOf("talk ((((((weight))))));", 2, 11);
        faultOf("talk ((((((not 1))))));", 2, 11);
        faultOf("talk ((((((or))))));", 2, 11);
        faultOf("talk (((((((1)))))));", 2, 11);
        faultOf("talk ((((((12345))))));", 2, 11);
        faultOf("talk 1+(((((1+(1)))))); ", 2, 15);
        faultOf("talk ((((((;", 1, 11);
        gives("(((((6)))))", 6);
        // Five numbers wait in each of the six expressions for the innermost one.
        String deep = "1";
        for (int i = 0; i < 6; i++) {
            deep = (i == 5 ? "" : "(") + "0 or 1 and 2=1+1*" + deep + (i == 5 ? "" : ")");
        }
        gives(deep, 1);
        gives(deep.replace("1*1", "1*2"), 0);
    }

    private static void seventhNot() {
        gives("not not not not not not 5", 1);
        gives("not not not not not 5", 0);
        faultOf("talk not not not not not not not 5;", 2, 29);
        faultOf("talk 1 and not not not not not not not 5;", 2, 35);
        faultOf("falls (not not not not not not not 5);", 2, 31);
        faultOf("talk not not not not not not x;", 3, 29);
        faultOf("talk not not not not not not;", 1, 28);
        gives("not not not not not not (not 5)", 0);
        gives("not not not not 5 and not not not not 5", 1);
    }

    private static void noValue() {
        faultOf("talk x;", 3, 5);
        faultOf("talk towns;", 3, 5);
        faultOf("talk box;", 3, 5);
        faultOf("talk weights;", 3, 5);
        faultOf("talk weigh;", 3, 5);
        faultOf("talk and;", 3, 5);
        faultOf("talk or;", 3, 5);
        faultOf("talk 1*not 1;", 3, 7);
        faultOf("talk 1=not 1;", 3, 7);
        faultOf("talk (under);", 3, 6);
        faultOf("falls 1 and x;", 3, 12);
        faultOf("talk 1 x;", 1, 7);
        noFault("talk weight+hands+might+lean+borne+town+day;");
    }

    private static void noTown() {
        noFault("road 3 0 1;box 1 3;");
        faultOf("road 4 0 1;", 3, 5);
        faultOf("road 0 4 1;", 3, 7);
        faultOf("box 1 4;", 3, 6);
        faultOf("box 1 0 4;", 3, 8);
        faultOf("box 1 9999;", 3, 6);
        faultOf("towns 2;box 1 2;", 3, 14);
        noFault("towns 2;box 1 1;");
        faultOf("towns 8;road 0 8 1;", 3, 15);
        noFault("towns 8;road 0 7 1;");
        faultOf("box 1 5;towns 8;", 3, 6);
    }

    private static void noBox() {
        faultOf("bearer 1 1 under 0;", 3, 17);
        faultOf("bearer 1 1 under 0;box 1 0;", 3, 17);
        faultOf("box 1 0;bearer 1 1 under 1;box 1 0;", 3, 25);
        noFault("box 1 0;box 1 0;bearer 1 1 under 1;");
        faultOf("box 1 0;bearer 1 1 under 9999;", 3, 25);
        faultOf("box 1 0;bearer 1 1 under 6;", 3, 25);
    }

    private static void secondTown() {
        faultOf("road 0 0 1;", 4, 7);
        faultOf("road 3 3 1;", 4, 7);
        faultOf("road 0 1 1;road 0 1 1;", 4, 18);
        faultOf("road 0 1 1;road 1 0 1;", 4, 18);
        faultOf("road 0 1 1;road 1 2 1;road 0 2 1;road 2 1 1;", 4, 40);
        noFault("road 0 1 1;road 1 2 1;road 0 2 1;road 2 3 1;");
        faultOf("road 0 1 1;road 1 0;", 4, 18);
    }

    private static void townsBehind() {
        faultOf("road 0 1 1;towns 4;", 4, 11);
        faultOf("box 1 0;towns 4;", 4, 8);
        faultOf("box 1 0;towns;", 4, 8);
        noFault("bearer 1 1;talk town;falls 1;towns 3;");
    }

    private static void second() {
        faultOf("towns 3;towns 3;", 5, 8);
        faultOf("towns 3;bearer 1 1;towns;", 5, 19);
        faultOf("talk 1;talk 1;", 5, 7);
        faultOf("falls 1;falls 1;", 5, 8);
        faultOf("talk 1;falls 1;talk x;", 5, 15);
        noFault("talk 1;falls 1;");
    }

    public static void main(String[] args) {
        sentence("TOWNS 0, 1 .. (2 to 8; 4 without)", TextBoundariesTest::towns);
        sentence("ROADS (at most 14)", () -> roads());
        sentence("STAIRS (0 to 9)", TextBoundariesTest::stairs);
        sentence("BOXES 0, 1 .. (at most 6)", TextBoundariesTest::boxes);
        sentence("WEIGHT (1 to 99), a ROUTE", TextBoundariesTest::weight);
        sentence("a ROUTE (1 to 6 TOWNS)", TextBoundariesTest::route);
        sentence("BEARERS 0, 1 .. (at most 8)", TextBoundariesTest::bearers);
        sentence("STRENGTH (1 to 40)", TextBoundariesTest::strength);
        sentence("HEIGHT (1 to 9)", TextBoundariesTest::height);
        sentence("perhaps a BOX under which one has a hand at first", TextBoundariesTest::handAtFirst);
        sentence("A TEXT of at most 700 bytes tells it.", TextBoundariesTest::longTexts);
        sentence("words (a .. z, the longest row)", TextBoundariesTest::words);
        sentence("In quotes is what stands there", TextBoundariesTest::everyLetter);
        sentence("NUMBERS (1 to 4 digits)", TextBoundariesTest::numbers);
        sentence("signs ; ( ) + - * / < =", TextBoundariesTest::signs);
        sentence("blanks (32, 10) between them count for nothing", TextBoundariesTest::blanks);
        sentence("LAND: LINE*.", TextBoundariesTest::lines);
        sentence("LINE: ('towns' NUMBER | 'road' TOWN TOWN STAIRS | 'box' WEIGHT TOWN TOWN*", TextBoundariesTest::lineParts);
        sentence("EXPR: AND ('or' AND)*.", TextBoundariesTest::ors);
        sentence("AND: NOT ('and' NOT)*.", TextBoundariesTest::ands);
        sentence("NOT: 'not' NOT | SUM [('<' | '=') SUM].", TextBoundariesTest::nots);
        sentence("SUM: PRODUCT (('+' | '-') PRODUCT)*. PRODUCT: PART (('*' | '/') PART)*. PART: NUMBER | VALUE | '(' EXPR ')'.",
            TextBoundariesTest::sumsAndProducts);
        sentence("From the left", TextBoundariesTest::fromTheLeft);
        sentence("ints that wrap, / cut", TextBoundariesTest::wraps);
        sentence("/ cut down to 0", TextBoundariesTest::cutDown);
        sentence("by 0 gives 0", TextBoundariesTest::byZero);
        sentence("tests, not, and, or are 1 or 0 (what isn't 0 holds)", TextBoundariesTest::oneOrZero);
        sentence("VALUES of a BOX: 'weight', 'hands' (how many BEARERS are under it), 'might' (of these, together)",
            TextBoundariesTest::values);
        sentence("'lean' (by how much the tallest of these is taller than the shortest; 0 without any)",
            TextBoundariesTest::leanOfFew);
        sentence("'borne' (1, if it is BORNE, else 0)", TextBoundariesTest::borneAsValue);
        sentence("FAULTS, the first along the text", TextBoundariesTest::firstFault);
        sentence("at a TOKEN's first byte", TextBoundariesTest::firstByte);
        sentence("of one TOKEN the least", TextBoundariesTest::leastOfOne);
        sentence("1 a TOKEN that can't stand there, or is none", TextBoundariesTest::cantStand);
        sentence("the first TOKEN of the 15th ROAD, the 7th BOX, the 9th BEARER", TextBoundariesTest::firstTokens);
        sentence("'bearer' STRENGTH HEIGHT ['under' BOX]", TextBoundariesTest::underOrNot);
        sentence("'town' (where it is), 'day'", TextBoundariesTest::whereAndWhen);
        sentence("(the text's length where it ends too soon)", TextBoundariesTest::endsTooSoon);
        sentence("2 one that can, but is too much: a NUMBER of 5 digits or more", TextBoundariesTest::fiveDigits);
        sentence("or (not in an EXPR) not as told", TextBoundariesTest::notInAnExpr);
        sentence("the 7th TOWN of a ROUTE", TextBoundariesTest::seventhTown);
        sentence("of an EXPR within 6 others (a NUMBER, any word, a parenthesis)", TextBoundariesTest::within);
        sentence("the seventh 'not' side by side", TextBoundariesTest::seventhNot);
        sentence("3 any word where a PART must stand that is no VALUE", TextBoundariesTest::noValue);
        sentence("a TOWN that there isn't (by 'towns' as told ahead; of 4, if it isn't)", TextBoundariesTest::noTown);
        sentence("a BOX that isn't told ahead", TextBoundariesTest::noBox);
        sentence("4 the second TOWN of a ROAD that is the first one, or has one with it", TextBoundariesTest::secondTown);
        sentence("'towns' behind any TOWN", TextBoundariesTest::townsBehind);
        sentence("5 a second 'towns', 'talk', 'falls'.", TextBoundariesTest::second);
        end("TextBoundariesTest", args);
    }
}
