import java.util.function.Consumer;

/** The edges of promises 4 to 12 and 38 to 40, and of the terms about people, weeks and springs. */
final class StateEdges {
    private static final String EIGHT = "pp0;pp0;pp0;pp0;pp0;pp0;pp0;pp0;";

    private final Check check;

    StateEdges(Check check) {
        this.check = check;
    }

    void run() {
        atFirst();
        memoryAtFirst();
        person();
        known();
        memory();
        recalls();
        speaks();
        owes();
        back();
        names();
        turn();
        weeks();
        persons();
        debtors();
        kindlyOnes();
        quarrellers();
        dogs();
        wives();
        mayBeNamed();
        memoryInRange();
        memoryOfThoseHere();
        springs();
        namedInSpring();
        forgottenInSpring();
        image();
        on();
        count();
    }

    private void atFirst() {
        check.at("Terms", "PEOPLE 0 .. as they come (8 at most)");
        SoManyForgotten x = Check.of("pw9;pp0;" + "px5;".repeat(6));
        check.due("count(0)", x.count(0), 8);
        check.due("person(0, 0)", x.person(0, 0), 5);
        check.due("person(7, 0)", x.person(7, 0), 4);
        check.due("person(8, 0)", x.person(8, 0), -1);
        check.at("Terms", "HERE (at first) or FORGOTTEN, OWES (0 .. 99; 0 at first)");
        for (int one = 0; one < 8; one++) {
            check.due("person(" + one + ", 2)", x.person(one, 2), 1);
            check.due("person(" + one + ", 3)", x.person(one, 3), 0);
        }
        check.at("Terms", "NAMES (0 .. 3: how many are FORGOTTEN each SPRING; 1 at first)");
        check.due("count(3)", x.count(3), 1);
        check.at("Terms", "WEEK (0 .. 999; 0 at first)");
        check.due("count(1)", x.count(1), 0);
        check.due("weeks to 999", Check.atWeek(x, 999).count(1), 999);
        check.due("weeks(1)", x.weeks(1), -6);
    }

    private void memoryAtFirst() {
        check.at("Terms", "50 at first, of those who come both ways");
        SoManyForgotten x = Check.of("px0;pp0;r0107;r1008;w10;");
        check.due("count(2)", x.count(2), 1);
        Check.tell(x, "pp0;");
        check.due("memory(2, 0)", x.memory(2, 0), 50);
        check.due("memory(0, 2)", x.memory(0, 2), 50);
        check.due("memory(2, 1) of one forgotten", x.memory(2, 1), 50);
        check.due("memory(1, 2) of one forgotten", x.memory(1, 2), 50);
        check.due("memory(0, 1) of those who were there", x.memory(0, 1), 0);
        check.due("memory(1, 0) of those who were there", x.memory(1, 0), 8);
        check.due("person(1, 4), by those here", x.person(1, 4), 50);
        check.due("person(2, 4), by those here", x.person(2, 4), 50);
    }

    private void person() {
        check.at("Promise 4", "Of one: 0 KIND (0 p, 1 d, 2 k, 3 q, 4 x, 5 w), 1 FIGURE, 2 HERE 1, FORGOTTEN 0, 3 OWES, 4 KNOWN");
        SoManyForgotten x = Check.of("pp0;pd9;pk1;pq2;px3;pw4;pw5;o099;o600;");
        int[][] due = {
            {0, 0, 1, 99, 300, 1}, {1, 9, 1, 0, 300, 1}, {2, 1, 1, 0, 300, 1}, {3, 2, 1, 0, 300, 1}, {4, 3, 1, 0, 300, 0},
            {5, 4, 1, 0, 300, 1}, {5, 5, 1, 0, 300, 0}
        };
        for (int one = 0; one < due.length; one++) {
            for (int what = 0; what < 6; what++) {
                check.due("person(" + one + ", " + what + ")", x.person(one, what), due[one][what]);
            }
        }
        SoManyForgotten y = Check.of("pp3;px0;o077;w10;");
        int[] forgotten = {0, 3, 0, 0, 0, 1};
        for (int what = 0; what < 6; what++) {
            check.due("person(0, " + what + ") of one forgotten", y.person(0, what), forgotten[what]);
        }
    }

    private void known() {
        check.at("Terms", "KNOWN: how well one is KNOWN: MEMORY of all others HERE of him together");
        check.due("one alone", Check.of("pp0;").person(0, 4), 0);
        SoManyForgotten x = Check.of(EIGHT, "r1099;r2099;r3099;r4099;r5099;r6099;r7099;", "r0700;r1700;r2700;r3700;r4700;r5700;r6700;");
        check.due("one of eight, by 99 each", x.person(0, 4), 693);
        check.due("one of eight, by 0 each", x.person(7, 4), 0);
        check.due("one of eight, by 50 each", x.person(3, 4), 350);
        x.weeks(10);
        check.due("count(2)", x.count(2), 127);
        check.due("without the one forgotten", x.person(0, 4), 6 * 89);
        check.due("memory of the one forgotten", x.memory(7, 0), 89);
        x.recalls(0, 7, 1);
        x.recalls(6, 7, 99);
        check.due("the one forgotten, by those here", x.person(7, 4), 100);
    }

    private void memory() {
        check.at("Promise 5", "MEMORY of the first of the second");
        SoManyForgotten x = Check.of("pp0;px0;r0199;r1000;");
        check.due("memory(0, 1)", x.memory(0, 1), 99);
        check.due("memory(1, 0)", x.memory(1, 0), 0);
        x.weeks(10);
        check.due("memory(0, 1) of one forgotten", x.memory(0, 1), 99);
        check.due("memory(1, 0) of one forgotten", x.memory(1, 0), 0);
    }

    private void recalls() {
        check.at("Promise 6", "MEMORY becomes v: what it was");
        SoManyForgotten x = Check.of("pp0;px0;");
        check.due("recalls(0, 1, 0)", x.recalls(0, 1, 0), 50);
        check.due("recalls(0, 1, 99)", x.recalls(0, 1, 99), 0);
        check.due("recalls(0, 1, 99) again", x.recalls(0, 1, 99), 99);
        check.due("memory(1, 0)", x.memory(1, 0), 50);
        x.weeks(10);
        check.due("recalls(1, 0, 7) of one forgotten", x.recalls(1, 0, 7), 0);
        check.due("recalls(0, 1, 8) of one forgotten", x.recalls(0, 1, 8), 99);
        check.due("memory(1, 0)", x.memory(1, 0), 7);
        check.due("memory(0, 1)", x.memory(0, 1), 8);
    }

    private void speaks() {
        check.at("Terms", "SPEAKING (both HERE): MEMORY of each of the other is 10 more (99 at most)");
        int[][] fromTo = {{0, 10}, {1, 11}, {50, 60}, {88, 98}, {89, 99}, {90, 99}, {98, 99}, {99, 99}};
        for (int[] v : fromTo) {
            SoManyForgotten x = Check.of("pp0;pp0;pp0;");
            x.recalls(0, 1, v[0]);
            check.due("speaks(0, 1) from " + v[0], x.speaks(0, 1), v[1] + 60);
            check.due("memory(0, 1) from " + v[0], x.memory(0, 1), v[1]);
            check.due("memory(1, 0)", x.memory(1, 0), 60);
            SoManyForgotten y = Check.of("pp0;pp0;pp0;");
            y.recalls(0, 1, v[0]);
            check.due("speaks(1, 0) from " + v[0], y.speaks(1, 0), v[1] + 60);
            check.due("memory(0, 1) of the one spoken to", y.memory(0, 1), v[1]);
            check.due("memory of others", y.memory(0, 2) + y.memory(1, 2) + y.memory(2, 0) + y.memory(2, 1), 200);
        }
        check.at("Promise 7", "They SPEAK: MEMORY of both together then");
        check.due("the most", Check.of("pp0;pp0;r0199;r1089;").speaks(0, 1), 198);
        check.due("the least", Check.of("pp0;pp0;r0100;r1000;").speaks(0, 1), 20);
    }

    private void owes() {
        check.at("Promise 8", "OWES becomes v: what it was");
        SoManyForgotten x = Check.of("pp0;px0;");
        check.due("owes(0, 99)", x.owes(0, 99), 0);
        check.due("owes(0, 99) again", x.owes(0, 99), 99);
        check.due("owes(1, 1) of a dog", x.owes(1, 1), 0);
        check.due("owes(0, 0)", x.owes(0, 0), 99);
        check.due("person(0, 3)", x.person(0, 3), 0);
        x.weeks(10);
        check.due("owes(0, 40) of one forgotten", x.owes(0, 40), 0);
        x.weeks(10);
        check.due("owes(0, 0) behind a spring in which he was not named", x.owes(0, 0), 40);
    }

    private void back() {
        check.at("Promise 9", "He comes BACK: how many are HERE");
        // All go in the one spring, 2 first, then 1, then 0: who goes keeps 40 of those still here.
        SoManyForgotten x = Check.of("pp0;pp0;pp0;n3;r0131;r0232;r1233;w10;");
        check.due("count(2)", x.count(2), 0);
        x.recalls(0, 1, 91);
        check.due("back(1) to nobody", x.back(1), 1);
        check.at("Terms", "MEMORY of all others HERE of him is 20, his of them stays");
        check.due("memory(0, 1) of one forgotten of him stays", x.memory(0, 1), 91);
        check.due("memory(2, 1) of one forgotten of him stays", x.memory(2, 1), 40);
        check.due("memory(1, 0), his, stays", x.memory(1, 0), 40);
        check.due("memory(1, 2), his, stays", x.memory(1, 2), 0);
        x.recalls(1, 0, 99);
        check.due("back(0) to one", x.back(0), 2);
        check.due("memory(1, 0) of one here, from 99", x.memory(1, 0), 20);
        check.due("memory(2, 0) of one forgotten of him stays", x.memory(2, 0), 40);
        check.due("memory(0, 1), his, stays", x.memory(0, 1), 91);
        check.due("back(2) to two", x.back(2), 3);
        check.due("memory(0, 2) of one here, from 0", x.memory(0, 2), 20);
        check.due("memory(1, 2) of one here, from 0", x.memory(1, 2), 20);
        check.due("memory(2, 0), his, stays", x.memory(2, 0), 40);
        check.due("memory(2, 1), his, stays", x.memory(2, 1), 40);
        check.at("Terms", "BACK: he is HERE again");
        check.due("count(2)", x.count(2), 7);
        check.due("person(2, 4)", x.person(2, 4), 40);
        check.due("person(2, 3)", x.person(2, 3), 0);
        SoManyForgotten y = Check.of("pd3;w10;o044;");
        y.back(0);
        check.due("kind, figure and what he owes stay", 100 * y.person(0, 3) + y.turn(0, 0, 0), 4413);
        SoManyForgotten z = Check.of("pd3;w10;o044;b0;");
        check.due("by letters, too", 100 * z.person(0, 3) + z.turn(0, 0, 0), 4413);
    }

    private void names() {
        check.at("Promise 10", "NAMES become v: what they were");
        SoManyForgotten x = new SoManyForgotten();
        check.due("names(0)", x.names(0), 1);
        check.due("names(3)", x.names(3), 0);
        check.due("names(3) again", x.names(3), 3);
        check.due("names(1)", x.names(1), 3);
        check.at("Terms", "as often as NAMES tells");
        for (int names = 0; names <= 3; names++) {
            SoManyForgotten y = Check.of(EIGHT + "n" + names + ";");
            check.due("weeks(9) by " + names, y.weeks(9), 8);
            check.due("weeks(1) by " + names, y.weeks(1), 8 - names);
            check.due("weeks(10) by " + names, y.weeks(10), 8 - 2 * names);
            check.due("weeks(10) by " + names, y.weeks(10), Math.max(0, 8 - 3 * names));
        }
    }

    private void turn() {
        check.at("Promise 11", "KIND, FIGURE become others: 10 times the KIND and the FIGURE it had");
        SoManyForgotten x = Check.of("pp0;");
        int before = 0;
        for (int kind = 0; kind <= 5; kind++) {
            for (int figure = 0; figure <= 9; figure += 3) {
                check.due("turn(0, " + kind + ", " + figure + ")", x.turn(0, kind, figure), before);
                check.due("person(0, 0)", x.person(0, 0), kind);
                check.due("person(0, 1)", x.person(0, 1), figure);
                before = 10 * kind + figure;
            }
        }
        check.due("turn(0, 0, 0)", x.turn(0, 0, 0), 59);
        x.owes(0, 12);
        x.turn(0, 1, 0);
        check.due("he owes what he did", x.person(0, 3), 12);
        x.turn(0, 0, 0);
        x.weeks(10);
        check.due("turn(0, 4, 1) of one forgotten", x.turn(0, 4, 1), 0);
        check.due("he stays forgotten", x.person(0, 2), 0);
    }

    private void weeks() {
        check.at("Promise 12", "n WEEKS (1 .. 60) go by: how many are HERE");
        SoManyForgotten x = Check.of(EIGHT);
        check.due("weeks(1)", x.weeks(1), 8);
        check.due("count(1)", x.count(1), 1);
        check.due("weeks(60)", x.weeks(60), 2);
        check.due("count(1)", x.count(1), 61);
        check.due("weeks(60) again", x.weeks(60), 0);
        check.at("Promise 12", "WEEK above 999");
        SoManyForgotten y = Check.atWeek(new SoManyForgotten(), 939);
        check.due("weeks(61)", y.weeks(61), -6);
        check.due("weeks(60) to 999", y.weeks(60), 0);
        check.due("count(1)", y.count(1), 999);
        check.due("weeks(1)", y.weeks(1), -6);
        SoManyForgotten z = Check.atWeek(new SoManyForgotten(), 940);
        check.due("weeks(60) to 1000", z.weeks(60), -6);
        check.due("weeks(59) to 999", z.weeks(59), 0);
        check.at("Terms", "A WEEK: WEEK is 1 more");
        SoManyForgotten each = new SoManyForgotten();
        for (int week = 1; week <= 20; week++) {
            each.weeks(1);
            check.due("count(1)", each.count(1), week);
        }
    }

    /** What a dog remembers of him, week by week, from a week and a memory on; the later ones in mind alone. */
    private void follow(String him, int week, int memory, int... due) {
        SoManyForgotten x = Check.atWeek(Check.of("n0;"), week);
        Check.tell(x, him + "px0;");
        x.recalls(1, 0, memory);
        for (int i = 0; i < due.length; i++) {
            String then = him + " in week " + (week + i + 1) + " from " + memory + " in week " + week;
            check.due(then + ", in mind", x.memoryThen(1, 0, i + 1), due[i]);
        }
        for (int i = 0; i < due.length && week + i < 999; i++) {
            x.weeks(1);
            check.due(him + " in week " + (week + i + 1) + " from " + memory, x.memory(1, 0), due[i]);
        }
        check.due("memory of the dog", x.memory(0, 1), 50);
    }

    private void persons() {
        check.at("Terms", "p PERSON: 1 less");
        follow("pp9;o099;", 0, 50, 49, 48, 47, 46, 45, 44, 43, 42, 41, 40, 39);
        follow("pp0;", 7, 1, 0, 0);
        follow("pp0;", 998, 99, 98, 97, 96);
    }

    private void debtors() {
        check.at("Terms", "d DEBTOR under PERSON: OWES by 10, cut, less");
        follow("pd9;o000;", 0, 50, 50, 50);
        follow("pd9;o009;", 0, 50, 50, 50);
        follow("pd9;o010;", 0, 50, 49, 48);
        follow("pd9;o019;", 0, 50, 49, 48);
        follow("pd9;o020;", 0, 50, 48, 46);
        follow("pd0;o090;", 0, 50, 41, 32);
        follow("pd0;o099;", 0, 50, 41, 32);
    }

    private void kindlyOnes() {
        check.at("Terms", "k KINDLY under PERSON: as a PERSON, and 3 more besides in WEEKS that are 8, 9 or 0 modulo 10 (2 more then in all)");
        follow("pk9;o099;", 0, 50, 49, 48, 47, 46, 45, 44, 43, 45, 47, 49, 48);
        follow("pk0;", 6, 50, 49, 51, 53, 55, 54);
        follow("pk0;", 16, 50, 49, 51, 53, 55, 54);
        follow("pk0;", 996, 50, 49, 51, 53, 55, 54, 53);
        follow("pk0;", 76, 50, 49, 51, 53, 55, 54);
    }

    private void quarrellers() {
        check.at("Terms", "q QUARRELLER under DEBTOR: FIGURE more than a DEBTOR's");
        follow("pq0;", 0, 50, 50, 50);
        follow("pq1;", 0, 50, 51, 52);
        follow("pq9;", 0, 50, 59, 68);
        follow("pq9;o009;", 0, 50, 59, 68);
        follow("pq9;o010;", 0, 50, 58, 66);
        follow("pq9;o099;", 0, 50, 50, 50);
        follow("pq0;o099;", 0, 50, 41, 32);
        follow("pq8;o099;", 0, 50, 49, 48);
    }

    private void dogs() {
        check.at("Terms", "x DOG under PERSON: 0");
        follow("px0;", 0, 50, 50, 50, 50, 50, 50, 50, 50, 50, 50, 50, 50);
        follow("px9;o099;", 7, 0, 0, 0, 0);
        follow("px9;o099;", 7, 99, 99, 99, 99);
    }

    private void wives() {
        check.at("Terms", "w WIFE under KINDLY: 2 more than a KINDLY one's in odd WEEKS, else as a KINDLY one");
        follow("pw0;o099;", 0, 50, 51, 50, 51, 50, 51, 50, 51, 53, 57, 59, 60, 59);
        follow("pw9;", 6, 50, 51, 53, 57, 59, 60, 59);
        follow("pw9;", 996, 50, 51, 53, 57, 59, 60, 59);
    }

    private void mayBeNamed() {
        check.at("Terms", "he may");
        named("pp", 1, 1);
        check.at("Terms", "as a PERSON");
        named("pd", 1, 1);
        named("pk", 1, 1);
        named("pq", 1, 1);
        check.at("Terms", "he may not");
        named("px", 0, 0);
        check.at("Terms", "only if FIGURE is below 5");
        named("pw", 1, 0);
        check.at("Terms", "Where it is not told as above them");
        check.due("a debtor may be named as a person", Check.of("pd9;o099;").person(0, 5), 1);
        check.due("a dog owes, too", Check.of("px0;o012;").person(0, 3), 12);
    }

    private void named(String kind, int below5, int from5) {
        for (int figure = 0; figure <= 9; figure++) {
            SoManyForgotten x = Check.of(kind + figure + ";px0;");
            int due = figure < 5 ? below5 : from5;
            check.due("person(0, 5) of " + kind + figure, x.person(0, 5), due);
            check.due("goes(0) of " + kind + figure, x.goes(0), due == 1 ? 10 : -9);
            check.due("weeks(10) of " + kind + figure, x.weeks(10), 2 - due);
        }
    }

    private void memoryInRange() {
        check.at("Terms", "(0 at least, 99 at most)");
        follow("pp0;", 0, 2, 1, 0, 0, 0);
        follow("pd0;o090;", 0, 10, 1, 0, 0);
        follow("pd0;o090;", 0, 9, 0, 0);
        follow("pd0;o090;", 0, 8, 0, 0);
        follow("pq9;", 0, 90, 99, 99);
        follow("pq9;", 0, 91, 99, 99);
        follow("pq9;", 0, 89, 98, 99);
        follow("pk0;", 7, 97, 99, 99, 99, 98);
        follow("pk0;", 7, 98, 99, 99, 99, 98);
        follow("pk0;", 6, 0, 0, 2, 4, 6, 5);
        follow("pw0;", 8, 95, 99, 99);
        follow("pw0;", 8, 96, 99, 99);
    }

    private void memoryOfThoseHere() {
        check.at("Terms", "of each HERE, by numbers, MEMORY of all others HERE of him is more or less");
        SoManyForgotten x = Check.of("pp0;px0;pq5;w10;");
        check.due("count(2)", x.count(2), 6);
        check.due("memory(1, 2) of two here", x.memory(1, 2), 99);
        x.recalls(1, 0, 33);
        x.recalls(2, 0, 34);
        x.recalls(0, 2, 35);
        x.recalls(1, 2, 36);
        x.weeks(5);
        check.due("memory of those here of one forgotten", x.memory(1, 0), 33);
        check.due("memory of those here of one forgotten", x.memory(2, 0), 34);
        check.due("memory of one forgotten of one here", x.memory(0, 2), 35);
        check.due("memory of one here of one here", x.memory(1, 2), 61);
        check.due("memory of a dog", x.memory(2, 1), 50);
        x.back(0);
        x.weeks(1);
        check.due("memory(1, 0) of one back", x.memory(1, 0), 19);
        check.due("memory(0, 2) of one back", x.memory(0, 2), 40);
    }

    private void springs() {
        check.at("Terms", "then, if 10 divides WEEK, a SPRING");
        SoManyForgotten x = Check.of(EIGHT);
        for (int week = 1; week <= 90; week++) {
            check.due("weeks(1) to " + week, x.weeks(1), Math.max(0, 8 - week / 10));
        }
        SoManyForgotten late = Check.atWeek(Check.of("n0;"), 985);
        Check.tell(late, "pp0;pp0;n1;");
        check.due("weeks(4) to 989", late.weeks(4), 2);
        check.due("weeks(1) to 990", late.weeks(1), 1);
        check.due("weeks(9) to 999", late.weeks(9), 1);
        check.due("goes(1) in week 1000, in thought", late.goes(1), 1);
        check.at("Terms", "of those HERE who may be NAMED the one least KNOWN (as it is then)");
        // In week 10 the debtor falls from 49 to 40 and the other from 42 to 41: the week comes first.
        SoManyForgotten y = Check.of("pp0;pd0;n0;w09;n1;o199;r1042;r0149;");
        check.due("weeks(1)", y.weeks(1), 1);
        check.due("count(2)", y.count(2), 1);
        SoManyForgotten tie = Check.of("pp0;pd0;n0;w09;n1;o199;r1041;r0149;");
        check.due("weeks(1) of two alike", tie.weeks(1), 1);
        check.due("count(2), of several the least", tie.count(2), 2);
    }

    private void namedInSpring() {
        check.at("Terms", "of several the least, is FORGOTTEN");
        SoManyForgotten x = Check.of("px0;pw5;pp0;pp0;pp0;w10;");
        check.due("count(2)", x.count(2), 1 + 2 + 8 + 16);
        check.at("Terms", "the one least KNOWN (as it is then)");
        // 3 goes first; by him 2 was known by 99, so that without him 2 is the least, not 1.
        SoManyForgotten y = Check.of("px0;pp0;pp0;pp0;n2;w09;", "r0300;r1300;r2300;r0130;r2130;r3130;r0220;r1220;r3299;w01;");
        check.due("count(2)", y.count(2), 1 + 2);
        check.at("Terms", "none: nothing");
        SoManyForgotten none = Check.of("px0;pw5;n3;");
        check.due("weeks(60) of dogs and wives of 5", none.weeks(60), 2);
        SoManyForgotten one = Check.of("px0;pp0;n3;");
        check.due("weeks(10) of one who may be named, by three", one.weeks(10), 1);
        check.due("count(2)", one.count(2), 1);
        check.due("weeks(60) of nobody", new SoManyForgotten().weeks(60), 0);
        check.due("one alone, whom nobody knows", Check.of("pp0;").weeks(10), 0);
    }

    private void forgottenInSpring() {
        check.at("Terms", "he OWES nothing then, MEMORY of those HERE of him is 0, his of them stays");
        SoManyForgotten x = Check.of("pp0;pp0;pp0;px0;o011;o122;o233;o344;r0160;r0261;r0362;w10;");
        check.due("count(2)", x.count(2), 14);
        check.due("he owes", x.person(0, 3), 0);
        check.due("the others owe", x.count(5), 99);
        for (int one = 1; one <= 3; one++) {
            check.due("memory(" + one + ", 0)", x.memory(one, 0), 0);
            check.due("memory(0, " + one + ")", x.memory(0, one), one == 3 ? 62 : 49 + one);
        }
        x.recalls(0, 1, 99);
        x.weeks(10);
        check.due("count(2)", x.count(2), 12);
        check.due("memory of one forgotten ahead stays", x.memory(0, 1), 99);
        check.due("memory of those here", x.memory(2, 1) + x.memory(3, 1), 0);
        check.due("the others owe", x.count(5), 77);
    }

    private void image() {
        check.at("Promise 38", "THE IMAGE is taken: WEEK");
        SoManyForgotten x = new SoManyForgotten();
        check.due("image() of a new object", x.image(), 0);
        Check.tell(x, EIGHT + "n3;w15;");
        check.due("on() to a new object", x.on(), 0);
        check.alike("what there is", Look.at(x), "counts 0 0 0 1 0 0 0 0");
        check.due("image() in week 999", Check.atWeek(x, 999).image(), 999);
        check.at("Terms", "THE IMAGE: all that there is, but it, the ROW, letters, REFUSALS");
        SoManyForgotten y = Check.of("pw4;pd5;pq6;o133;r0177;n2;w12;");
        String then = Look.at(y);
        y.image();
        Check.rowOf(y, 1, 2, 3);
        Check.letters(y, "n0");
        y.goes(3);
        Check.rowOf(y, 100);
        y.on();
        check.due("the row stays", y.count(6), 3);
        check.due("letters stay", y.count(7), 2);
        check.alike("refusals stay", Look.atRefusals(y), "refusals 1 0 0 0 0 1");
        check.due("clear()", y.clear(), 3);
        check.due("letter(59)", y.letter(59), 3);
        check.due("valley() of the letters that stayed", y.valley(), 1);
        check.due("count(3)", y.count(3), 0);
        check.due("on()", y.on(), 12);
        check.alike("what there is", Look.at(y), then);
    }

    /** Four of whom 1 is forgotten, in week 13, with an image of it. */
    private static SoManyForgotten withImage() {
        SoManyForgotten x = Check.of("pw4;pd5;pq6;px0;o133;r0177;w13;");
        x.image();
        return x;
    }

    private void on() {
        check.at("Promise 39", "ON from it: WEEK");
        check.due("count(2)", withImage().count(2), 13);
        check.due("on()", withImage().on(), 13);
        check.at("Terms", "ON from it all is as then");
        onBehind("turn", x -> x.turn(0, 4, 9));
        onBehind("recalls", x -> x.recalls(0, 1, 99));
        onBehind("owes", x -> x.owes(3, 99));
        onBehind("names", x -> x.names(0));
        onBehind("speaks", x -> x.speaks(2, 3));
        onBehind("back", x -> x.back(1));
        onBehind("those who come", x -> Check.tell(x, "pp0;pp0;"));
        onBehind("weeks", x -> x.weeks(60));
        onBehind("nothing", x -> { });
        SoManyForgotten y = withImage();
        Check.tell(y, "pp0;");
        y.on();
        Check.tell(y, "pp0;");
        check.due("memory of one who comes behind it", y.memory(4, 0) + y.memory(0, 4), 100);
        y.weeks(1);
        check.due("image() again", y.image(), 14);
        y.weeks(3);
        check.due("on() from the later", y.on(), 14);
        check.due("count(0) of the later", y.count(0), 5);
    }

    /** Twice, as the image is still there when all has gone on from it. */
    private void onBehind(String what, Consumer<SoManyForgotten> change) {
        SoManyForgotten x = withImage();
        for (int time = 1; time <= 2; time++) {
            change.accept(x);
            check.due("on() behind " + what, x.on(), 13);
            check.alike("what there is behind " + what, Look.at(x), Look.at(withImage()));
        }
    }

    private void count() {
        check.at("Promise 40", "0 PEOPLE, 1 WEEK, 2 HERE (bits), 3 NAMES, 4 KNOWN of those HERE together, 5 all OWES, 6 in the ROW, 7 letters");
        SoManyForgotten x = Check.of(EIGHT, "n3;o099;o199;o299;o399;o499;o599;o699;o799;w01;");
        int[] due = {8, 1, 255, 3, 8 * 7 * 49, 792, 0, 0};
        for (int what = 0; what < 8; what++) {
            check.due("count(" + what + ")", x.count(what), due[what]);
        }
        Check.letters(x, ";".repeat(96));
        check.due("count(7) full", x.count(7), 96);
        Check.rowOf(x, 0, 1, 2, 3, 4, 5, 6, 7, 8, 9, 10, 11, 12, 13, 14, 15);
        check.due("count(6) full", x.count(6), 16);
        x.weeks(10);
        check.due("count(2) behind a spring", x.count(2), 255 - 7);
        check.due("count(4) of those here alone", x.count(4), 5 * 4 * 39);
        check.due("count(5) behind a spring", x.count(5), 5 * 99);
        x.owes(0, 7);
        check.due("count(5) with one forgotten", x.count(5), 5 * 99 + 7);
        x.recalls(7, 0, 99);
        x.recalls(0, 7, 99);
        check.due("count(4) without one forgotten", x.count(4), 5 * 4 * 39);
        check.at("Promise 40", "-9 for another what");
        for (int what : new int[] {Integer.MIN_VALUE, -1, 8, 9, 10, 17, 18, Integer.MAX_VALUE}) {
            check.due("count(" + what + ")", x.count(what), -9);
        }
        check.alike("refusals", Look.atRefusals(x), "refusals 0 0 0 0 0 0");
    }
}
