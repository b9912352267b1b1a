/** Promises 1 to 12 and 38 to 40: what is there, and what changes it. */
final class StateTest {
    private static final Check check = new Check();

    public static void main(String[] args) {
        newObject();
        letter();
        valleyStatements();
        valleyFaults();
        valleyFaultsOfState();
        valleyLimits();
        person();
        memory();
        recalls();
        speaks();
        owes();
        back();
        names();
        turn();
        weeks();
        changeByKind();
        springs();
        image();
        count();
        check.finish();
    }

    private static void newObject() {
        check.promise("Promise 1");
        SoManyForgotten x = new SoManyForgotten();
        int[] due = {0, 0, 0, 1, 0, 0, 0, 0, -9, -9, -9, 0, 0, 0, 0, 0, 0, -9};
        for (int what = 0; what < due.length; what++) {
            check.due("count(" + what + ")", x.count(what), due[what]);
        }
        check.due("person(0, 0)", x.person(0, 0), -1);
        check.due("on()", x.on(), -3);
    }

    private static void letter() {
        check.promise("Promise 2");
        SoManyForgotten x = new SoManyForgotten();
        check.due("letter(0)", x.letter(0), 1);
        check.due("letter(255)", x.letter(255), 2);
        check.due("letter(-1)", x.letter(-1), -4);
        check.due("letter(256)", x.letter(256), -6);
        check.due("count(7)", x.count(7), 2);
        for (int i = 3; i <= 96; i++) {
            check.due("letter(59)", x.letter(59), i);
        }
        check.due("letter(59) as the 97th", x.letter(59), -6);
        check.due("letter(-1) as the 97th", x.letter(-1), -4);
        check.due("count(7) full", x.count(7), 96);
        check.due("count(14)", x.count(14), 2);
        check.due("count(16)", x.count(16), 2);
        check.due("valley()", x.valley(), -1000);
        check.due("letter(59) anew", x.letter(59), 1);
    }

    private static void valleyStatements() {
        check.promise("Promise 3");
        SoManyForgotten x = new SoManyForgotten();
        check.due("people", Check.tell(x, "pp1;pd2;pk3;pq4;px5;pw9;"), 6);
        check.due("letters are no more", x.count(7), 0);
        for (int i = 0; i < 6; i++) {
            check.due("kind " + i, x.person(i, 0), i);
            check.due("figure " + i, x.person(i, 1), i == 5 ? 9 : i + 1);
            check.due("here " + i, x.person(i, 2), 1);
            check.due("owes " + i, x.person(i, 3), 0);
        }
        check.due("rest", Check.tell(x, "r0107;o299;s34;n3;"), 4);
        check.due("memory of 0 of 1", x.memory(0, 1), 7);
        check.due("memory of 1 of 0", x.memory(1, 0), 50);
        check.due("owes of 2", x.person(2, 3), 99);
        check.due("memory of 3 of 4", x.memory(3, 4), 60);
        check.due("memory of 4 of 3", x.memory(4, 3), 60);
        check.due("names", x.count(3), 3);
        check.due("weeks", Check.tell(x, "n1;w12;"), 2);
        check.due("week", x.count(1), 12);
        int gone = x.gone(0);
        check.due("one is forgotten", Integer.bitCount(gone), 1);
        int who = Integer.numberOfTrailingZeros(gone);
        check.due("back", Check.tell(x, "b" + who + ";"), 1);
        check.due("here again", x.person(who, 2), 1);
        check.due("one more", Check.tell(x, "pp0;"), 1);
        check.due("his memory", x.memory(6, 0), 50);
        check.due("memory of him", x.memory(0, 6), 50);
    }

    private static void fault(String text, int due) {
        SoManyForgotten x = Check.of("pp0;pp1;");
        check.due("\"" + text + "\"", Check.tell(x, text), due);
        check.due("letters behind \"" + text + "\"", x.count(7), 0);
        check.due("people behind \"" + text + "\"", x.count(0), 2);
        check.due("week behind \"" + text + "\"", x.count(1), 0);
        check.due("names behind \"" + text + "\"", x.count(3), 1);
        check.due("owes behind \"" + text + "\"", x.count(5), 0);
        check.due("known behind \"" + text + "\"", x.count(4), 100);
        for (int what = 11; what <= 16; what++) {
            check.due("count(" + what + ") behind \"" + text + "\"", x.count(what), 0);
        }
    }

    private static void valleyFaults() {
        check.promise("Promise 3, faults of kind 1");
        fault("", -1000);
        fault(";", -1000);
        fault("x", -1000);
        fault("P", -1000);
        fault("p", -1001);
        fault("pz0;", -1001);
        fault("p0", -1001);
        fault("pp", -1002);
        fault("ppp", -1002);
        fault("pp0", -1003);
        fault("pp00", -1003);
        fault("pp0;;", -1004);
        fault("pp0;p", -1005);
        fault("r01234;", -1005);
        fault("r01/4;", -1003);
        fault("r01:4;", -1003);
        fault("r012", -1004);
        fault("o012", -1004);
        fault("o01;", -1003);
        fault("s0;", -1002);
        fault("s001;", -1003);
        fault("b00;", -1002);
        fault("n00;", -1002);
        fault("n;", -1001);
        fault("w1;", -1002);
        fault("w100;", -1003);
        fault(" pp0;", -1000);
        fault("pp0; ", -1004);
        fault("n9;b0;w00;q", -1010);
        fault("n9;pp0", -1006);
    }

    private static void valleyFaultsOfState() {
        check.promise("Promise 3, faults of kind 2");
        fault("r0210;", -2000);
        fault("r2010;", -2000);
        fault("r1110;", -2000);
        fault("r9910;", -2000);
        fault("o210;", -2000);
        fault("o010;o210;", -2005);
        fault("s02;", -2000);
        fault("s20;", -2000);
        fault("s00;", -2000);
        fault("b0;", -2000);
        fault("b2;", -2000);
        fault("n4;", -2000);
        fault("n2;n9;", -2003);
        fault("w00;", -2000);
        fault("w61;", -2000);
        fault("w99;", -2000);
        fault("n2;w10;s01;", -2007);
        fault("w10;s01;", -2004);
        fault("w10;s10;", -2004);
        fault("w10;b1;", -2004);
        fault("w10;b0;b0;", -2007);
        fault("pp0;r0210;r0310;", -2010);
        fault("pp0;r0210;o399;n4;", -2010);
        fault("pp0;pp0;pp0;pp0;pp0;pp0;pp0;", -2024);
    }

    private static void valleyLimits() {
        check.promise("Promise 3, limits");
        SoManyForgotten x = new SoManyForgotten();
        check.due("eight people", Check.tell(x, "pp0;pp0;pp0;pp0;pp0;pp0;pp0;pp0;"), 8);
        check.due("a ninth", Check.tell(x, "n0;pp0;"), -2003);
        check.due("one with the number 8", Check.tell(x, "o800;"), -2000);
        check.due("names", x.count(3), 1);
        check.due("960 weeks", Check.tell(x, "w60;w60;w60;w60;w60;w60;w60;w60;w60;w60;w60;w60;w60;w60;w60;w60;"), 16);
        check.due("week 1000", Check.tell(x, "w40;"), -2000);
        check.due("week 1000 by two", Check.tell(x, "w01;w39;"), -2004);
        check.due("week 960", x.count(1), 960);
        check.due("week 999", Check.tell(x, "w39;"), 1);
        check.due("week 1000 by one", Check.tell(x, "w01;"), -2000);
        check.due("week 999 stays", x.count(1), 999);

        SoManyForgotten y = new SoManyForgotten();
        check.due("96 letters", Check.tell(y, "n0;".repeat(32)), 32);
        check.due("96 letters, something lacks", Check.tell(y, "n0;".repeat(31) + "pp0"), -1096);
        check.due("w60", Check.tell(y, "w60;w01;"), 2);
        check.due("the same one forgotten and back", Check.tell(y, "pp7;n1;w09;b0;o033;"), 5);
        check.due("he owes", y.person(0, 3), 33);
    }

    private static void person() {
        check.promise("Promise 4");
        SoManyForgotten x = Check.of("pp2;pd5;px3;pw4;pw5;o175;r0110;r2199;");
        int[][] due = {
            {0, 2, 1, 0, 200, 1}, {1, 5, 1, 75, 209, 1}, {4, 3, 1, 0, 200, 0}, {5, 4, 1, 0, 200, 1}, {5, 5, 1, 0, 200, 0}
        };
        for (int p = 0; p < due.length; p++) {
            for (int what = 0; what < 6; what++) {
                check.due("person(" + p + ", " + what + ")", x.person(p, what), due[p][what]);
            }
        }
        check.due("person(5, 0)", x.person(5, 0), -1);
        check.due("person(-1, 0)", x.person(-1, 0), -1);
        check.due("person(-1, 9)", x.person(-1, 9), -1);
        check.due("person(0, 6)", x.person(0, 6), -2);
        check.due("person(0, -1)", x.person(0, -1), -2);
        check.due("count(11)", x.count(11), 3);
        check.due("count(12)", x.count(12), 2);
        x.turn(1, 2, 9);
        check.due("a kindly one may be named", x.person(1, 5), 1);
        x.turn(1, 3, 9);
        check.due("a quarreller may be named", x.person(1, 5), 1);
        SoManyForgotten y = Check.of("pp0;px0;w10;");
        check.due("a forgotten one is not here", y.person(0, 2), 0);
        check.due("a forgotten one may be named", y.person(0, 5), 1);
        check.due("a forgotten one is known by none", y.person(0, 4), 0);
        y.recalls(1, 0, 33);
        check.due("a forgotten one is known by those here", y.person(0, 4), 33);
        check.due("forgotten ones know nobody", y.person(1, 4), 0);
    }

    private static void twoAreRefused(String call, int[] answers) {
        for (int i = 0; i < answers.length; i++) {
            check.due(call + " wrong two " + i, answers[i], -1);
        }
    }

    private static void memory() {
        check.promise("Promise 5");
        SoManyForgotten x = Check.of("pp0;pp0;r0133;");
        check.due("memory(0, 1)", x.memory(0, 1), 33);
        check.due("memory(1, 0)", x.memory(1, 0), 50);
        twoAreRefused("memory", new int[] {x.memory(0, 2), x.memory(2, 0), x.memory(-1, 0), x.memory(0, -1), x.memory(1, 1)});
        check.due("count(11)", x.count(11), 5);
    }

    private static void recalls() {
        check.promise("Promise 6");
        SoManyForgotten x = Check.of("pp0;pp0;");
        check.due("recalls(0, 1, 0)", x.recalls(0, 1, 0), 50);
        check.due("recalls(0, 1, 99)", x.recalls(0, 1, 99), 0);
        check.due("memory(0, 1)", x.memory(0, 1), 99);
        check.due("memory(1, 0)", x.memory(1, 0), 50);
        check.due("recalls(0, 1, -1)", x.recalls(0, 1, -1), -4);
        check.due("recalls(0, 1, 100)", x.recalls(0, 1, 100), -6);
        twoAreRefused("recalls", new int[] {x.recalls(0, 2, -1), x.recalls(2, 0, 100), x.recalls(-1, 0, 5), x.recalls(1, 1, 5)});
        check.due("memory(0, 1) stays", x.memory(0, 1), 99);
        x.weeks(10);
        check.due("of one forgotten", x.recalls(0, 1, 5), 89);
    }

    private static void speaks() {
        check.promise("Promise 7");
        SoManyForgotten x = Check.of("pp0;pp0;pp0;r0188;r1005;");
        check.due("speaks(0, 1)", x.speaks(0, 1), 98 + 15);
        check.due("speaks(1, 0)", x.speaks(1, 0), 99 + 25);
        check.due("memory(0, 1)", x.memory(0, 1), 99);
        check.due("memory(1, 0)", x.memory(1, 0), 25);
        check.due("memory(0, 2)", x.memory(0, 2), 50);
        twoAreRefused("speaks", new int[] {x.speaks(0, 3), x.speaks(3, 0), x.speaks(-1, 1), x.speaks(2, 2)});
        x.weeks(10);
        check.due("count(2)", x.count(2), 6);
        check.due("speaks(0, 1) of one forgotten", x.speaks(0, 1), -3);
        check.due("speaks(1, 0) to one forgotten", x.speaks(1, 0), -3);
        check.due("speaks(0, 0)", x.speaks(0, 0), -1);
        check.due("count(13)", x.count(13), 2);
    }

    private static void owes() {
        check.promise("Promise 8");
        SoManyForgotten x = Check.of("pp0;pd0;");
        check.due("owes(1, 99)", x.owes(1, 99), 0);
        check.due("owes(1, 0)", x.owes(1, 0), 99);
        check.due("owes(0, 12)", x.owes(0, 12), 0);
        check.due("owes(0, -1)", x.owes(0, -1), -4);
        check.due("owes(0, 100)", x.owes(0, 100), -6);
        check.due("owes(2, 100)", x.owes(2, 100), -1);
        check.due("owes(-1, -1)", x.owes(-1, -1), -1);
        check.due("person(0, 3)", x.person(0, 3), 12);
        check.due("count(5)", x.count(5), 12);
        x.weeks(10);
        check.due("he owes nothing then", x.owes(0, 40), 0);
        check.due("count(5) with one forgotten", x.count(5), 40);
    }

    private static void back() {
        check.promise("Promise 9");
        SoManyForgotten x = Check.of("pp0;pp0;pp0;w20;");
        check.due("count(2)", x.count(2), 4);
        check.due("back(2)", x.back(2), -3);
        check.due("back(3)", x.back(3), -1);
        check.due("back(-1)", x.back(-1), -1);
        check.due("back(0)", x.back(0), 2);
        check.due("memory of one here", x.memory(2, 0), 20);
        check.due("memory of one forgotten", x.memory(1, 0), 0);
        check.due("his memory stays", x.memory(0, 2), 40);
        check.due("back(1)", x.back(1), 3);
        check.due("memory of 0 of 1", x.memory(0, 1), 20);
        check.due("memory of 2 of 1", x.memory(2, 1), 20);
        check.due("his of 0 stays", x.memory(1, 0), 0);
        check.due("his of 2 stays", x.memory(1, 2), 30);
        check.due("back(1) again", x.back(1), -3);
        check.due("count(13)", x.count(13), 2);
    }

    private static void names() {
        check.promise("Promise 10");
        SoManyForgotten x = Check.of("pp0;pp0;pp0;pp0;");
        check.due("names(0)", x.names(0), 1);
        check.due("weeks(10)", x.weeks(10), 4);
        check.due("names(3)", x.names(3), 0);
        check.due("names(4)", x.names(4), -6);
        check.due("names(-1)", x.names(-1), -4);
        check.due("weeks(10) with three", x.weeks(10), 1);
        check.due("names(2)", x.names(2), 3);
        check.due("weeks(10) with one here", x.weeks(10), 0);
    }

    private static void turn() {
        check.promise("Promise 11");
        SoManyForgotten x = Check.of("pp7;pw9;");
        check.due("turn(1, 4, 0)", x.turn(1, 4, 0), 59);
        check.due("turn(1, 0, 9)", x.turn(1, 0, 9), 40);
        check.due("turn(0, 5, 9)", x.turn(0, 5, 9), 7);
        check.due("person(0, 0)", x.person(0, 0), 5);
        check.due("person(0, 1)", x.person(0, 1), 9);
        check.due("turn(2, 6, -1)", x.turn(2, 6, -1), -1);
        check.due("turn(-1, 0, 0)", x.turn(-1, 0, 0), -1);
        check.due("turn(0, 6, -1)", x.turn(0, 6, -1), -2);
        check.due("turn(0, -1, 10)", x.turn(0, -1, 10), -2);
        check.due("turn(0, 0, -1)", x.turn(0, 0, -1), -4);
        check.due("turn(0, 0, 10)", x.turn(0, 0, 10), -6);
        check.due("nothing changed", x.turn(0, 0, 0), 59);
    }

    private static void weeks() {
        check.promise("Promise 12");
        SoManyForgotten x = Check.of("pp0;pp0;pp0;");
        check.due("weeks(0)", x.weeks(0), -4);
        check.due("weeks(61)", x.weeks(61), -6);
        check.due("weeks(9)", x.weeks(9), 3);
        check.due("memory(1, 0)", x.memory(1, 0), 41);
        check.due("weeks(1)", x.weeks(1), 2);
        check.due("memory of him", x.memory(1, 0), 0);
        check.due("his memory", x.memory(0, 1), 40);
        check.due("weeks(60)", x.weeks(60), 0);
        check.due("count(1)", x.count(1), 70);
        for (int i = 0; i < 15; i++) {
            check.due("weeks(60) " + i, x.weeks(60), 0);
        }
        check.due("count(1)", x.count(1), 970);
        check.due("weeks(30)", x.weeks(30), -6);
        check.due("weeks(60)", x.weeks(60), -6);
        check.due("weeks(29)", x.weeks(29), 0);
        check.due("weeks(1) behind 999", x.weeks(1), -6);
        check.due("weeks(0) behind 999", x.weeks(0), -4);
        check.due("count(1)", x.count(1), 999);
    }

    /** What a dog remembers of one of each kind, week by week from week 0. */
    private static void changeByKind() {
        check.promise("Terms: kinds");
        follow("pp9;o095;", 49, 48, 47, 46, 45, 44, 43, 42, 41, 40, 39);
        follow("pd9;o009;", 50, 50, 50);
        follow("pd9;o010;", 49, 48);
        follow("pd9;o099;", 41, 32, 23, 14, 5, 0, 0);
        follow("pk9;o099;", 49, 48, 47, 46, 45, 44, 43, 45, 47, 49, 48, 47);
        follow("pq3;o020;", 51, 52, 53);
        follow("pq0;o039;", 47, 44);
        follow("pq9;o009;", 59, 68, 77, 86, 95, 99, 99);
        follow("px9;o099;", 50, 50, 50, 50, 50, 50, 50, 50, 50, 50, 50);
        follow("pw9;o099;", 51, 50, 51, 50, 51, 50, 51, 53, 57, 59, 60, 59);
    }

    private static void follow(String him, int... due) {
        SoManyForgotten x = Check.of(him + "px0;n0;");
        SoManyForgotten inMind = Check.of(him + "px0;n0;");
        for (int i = 0; i < due.length; i++) {
            x.weeks(1);
            check.due(him + " in week " + (i + 1), x.memory(1, 0), due[i]);
            check.due(him + " behind " + (i + 1), inMind.memoryThen(1, 0, i + 1), due[i]);
        }
        check.due("memory of a dog", x.memory(0, 1), 50);
    }

    /** Memory of each other one, by numbers, of him. */
    private static void set(SoManyForgotten x, int him, int... memories) {
        for (int one = 0; one < memories.length; one++) {
            if (one != him) {
                x.recalls(one, him, memories[one]);
            }
        }
    }

    private static void springs() {
        check.promise("Terms: springs");
        SoManyForgotten x = Check.of("px0;pp0;pw5;pw4;pp0;n2;o055;o166;o377;o488;");
        x.weeks(9);
        set(x, 4, 0, 0, 0, 41, -1);
        set(x, 1, 30, -1, 41, 41, 0);
        set(x, 3, 11, 30, 30, -1, 90);
        // Week 10 lets 4 go first; without his memory 3 is known by less than 1, with it by more.
        x.weeks(1);
        check.due("count(2)", x.count(2), 1 + 2 + 4);
        check.due("they owe nothing", x.person(3, 3) + x.person(4, 3), 0);
        check.due("others do", x.count(5), 55 + 66);
        check.due("memory of those here of him", x.memory(0, 3) + x.memory(1, 3) + x.memory(2, 3), 0);
        check.due("memory of the second forgotten of the first", x.memory(3, 4), 0);
        check.due("memory of the first forgotten of the second", x.memory(4, 3), 92);
        check.due("his memory stays", x.memory(4, 0), 50);
        x.names(3);
        x.weeks(10);
        check.due("neither the dog nor the wife of 5 may be named", x.count(2), 5);

        SoManyForgotten y = Check.of("pp0;pp0;pp0;n2;r0150;r0250;r1098;r2098;r1240;r2140;w10;");
        // 1 goes first: its memory of 0 counts no more, but memory of the forgotten of him stays.
        check.due("count(2)", y.count(2), 1);
        check.due("the first forgotten's memory of the second", y.memory(1, 2), 30);
        check.due("the second forgotten's memory of the first", y.memory(2, 1), 0);
    }

    private static void image() {
        check.promise("Promises 38, 39");
        SoManyForgotten x = Check.of("pp1;pd2;o130;r0177;n2;w03;");
        check.due("on() without one", x.on(), -3);
        check.due("image()", x.image(), 3);
        Check.tell(x, "pp0;n3;o012;r0111;w20;");
        x.turn(0, 4, 4);
        x.row(7);
        x.letter(112);
        check.due("count(2) ahead", x.count(2), 0);
        check.due("on()", x.on(), 3);
        check.due("people", x.count(0), 2);
        check.due("week", x.count(1), 3);
        check.due("here", x.count(2), 3);
        check.due("names", x.count(3), 2);
        check.due("memory(0, 1)", x.memory(0, 1), 68);
        check.due("memory(1, 0)", x.memory(1, 0), 47);
        check.due("owes", x.count(5), 30);
        check.due("kind and figure", x.turn(0, 0, 1), 1);
        check.due("the row stays", x.count(6), 1);
        check.due("letters stay", x.count(7), 1);
        check.due("refusals stay", x.count(13), 1);
        x.weeks(60);
        check.due("on() again", x.on(), 3);
        check.due("here again", x.count(2), 3);
        x.valley();
        Check.tell(x, "pk0;");
        check.due("memory of a new one", x.memory(2, 0) + x.memory(0, 2) + x.memory(1, 2) + x.memory(2, 1), 200);
        check.due("he owes nothing", x.person(2, 3), 0);
        x.weeks(1);
        check.due("image() again", x.image(), 4);
        x.weeks(1);
        check.due("on() from the later", x.on(), 4);
        check.due("people of the later", x.count(0), 3);
    }

    private static void count() {
        check.promise("Promise 40");
        SoManyForgotten x = Check.of("pp0;pp0;pp0;r0110;n2;o212;o134;w04;");
        x.row(3);
        x.row(4);
        x.letter(65);
        check.due("count(0)", x.count(0), 3);
        check.due("count(1)", x.count(1), 4);
        check.due("count(2)", x.count(2), 7);
        check.due("count(3)", x.count(3), 2);
        check.due("count(4)", x.count(4), 5 * 46 + 6);
        check.due("count(5)", x.count(5), 46);
        check.due("count(6)", x.count(6), 2);
        check.due("count(7)", x.count(7), 1);
        x.memory(0, 0);
        x.person(0, 9);
        x.person(0, 9);
        x.back(0);
        x.back(0);
        x.back(0);
        x.names(-4);
        x.names(8);
        x.names(9);
        x.feast(9, 0, 2, 0);
        x.mean(3);
        int[] due = {2, 3, 3, 1, 0, 2};
        for (int i = 0; i < 6; i++) {
            check.due("count(" + (11 + i) + ")", x.count(11 + i), due[i]);
        }
        for (int what : new int[] {-1, 8, 9, 10, 17, Integer.MIN_VALUE, Integer.MAX_VALUE}) {
            check.due("count(" + what + ")", x.count(what), -9);
        }
        check.due("no refusal by that", x.count(12), 3);
        x.weeks(6);
        check.due("count(2) of one here", x.count(2), 4);
        check.due("count(4) of one here", x.count(4), 0);
    }
}
