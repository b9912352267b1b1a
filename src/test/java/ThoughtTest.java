/** Promises 13 to 22: what is asked in mind of the weeks to come. */
final class ThoughtTest {
    private static final Check check = new Check();

    /** Of three alike the least goes each spring: 0 behind 10 weeks, 1 behind 20, 2 behind 30. */
    private static final String THREE = "pp0;pp0;pp0;";

    public static void main(String[] args) {
        memoryThen();
        knownThen();
        gone();
        goes();
        next();
        least();
        speak();
        fewest();
        save();
        bring();
        nothingChanges();
        beyondWeek999();
        check.finish();
    }

    private static void memoryThen() {
        check.promise("Promise 13");
        SoManyForgotten x = Check.of(THREE);
        check.due("memoryThen(1, 0, 0)", x.memoryThen(1, 0, 0), 50);
        check.due("memoryThen(1, 0, 9)", x.memoryThen(1, 0, 9), 41);
        check.due("memoryThen(1, 0, 10)", x.memoryThen(1, 0, 10), 0);
        check.due("memoryThen(0, 1, 10)", x.memoryThen(0, 1, 10), 40);
        check.due("memoryThen(0, 1, 99)", x.memoryThen(0, 1, 99), 40);
        check.due("memoryThen(1, 2, 20)", x.memoryThen(1, 2, 20), 30);
        check.due("memoryThen(1, 2, 99)", x.memoryThen(1, 2, 99), 30);
        check.due("memoryThen(1, 1, -1)", x.memoryThen(1, 1, -1), -1);
        check.due("memoryThen(3, 1, 100)", x.memoryThen(3, 1, 100), -1);
        check.due("memoryThen(1, -1, 100)", x.memoryThen(1, -1, 100), -1);
        check.due("memoryThen(0, 1, -1)", x.memoryThen(0, 1, -1), -4);
        check.due("memoryThen(0, 1, 100)", x.memoryThen(0, 1, 100), -6);
        check.due("count(11)", x.count(11), 3);
    }

    private static void knownThen() {
        check.promise("Promise 14");
        SoManyForgotten x = Check.of(THREE);
        check.due("knownThen(2, 0)", x.knownThen(2, 0), 100);
        check.due("knownThen(2, 9)", x.knownThen(2, 9), 82);
        check.due("knownThen(2, 10)", x.knownThen(2, 10), 40);
        check.due("knownThen(2, 19)", x.knownThen(2, 19), 31);
        check.due("knownThen(2, 20)", x.knownThen(2, 20), 0);
        check.due("knownThen(0, 10)", x.knownThen(0, 10), 0);
        check.due("knownThen(2, 99)", x.knownThen(2, 99), 0);
        check.due("knownThen(3, -1)", x.knownThen(3, -1), -1);
        check.due("knownThen(0, -1)", x.knownThen(0, -1), -4);
        check.due("knownThen(0, 100)", x.knownThen(0, 100), -6);
    }

    private static void gone() {
        check.promise("Promise 15");
        SoManyForgotten x = Check.of(THREE);
        int[] weeks = {0, 9, 10, 19, 20, 29, 30, 99};
        int[] due = {0, 0, 1, 1, 3, 3, 7, 7};
        for (int i = 0; i < weeks.length; i++) {
            check.due("gone(" + weeks[i] + ")", x.gone(weeks[i]), due[i]);
        }
        check.due("gone(-1)", x.gone(-1), -4);
        check.due("gone(100)", x.gone(100), -6);
        x.weeks(13);
        check.due("gone(0) with one forgotten", x.gone(0), 1);
        check.due("gone(7)", x.gone(7), 3);
        check.due("two in one spring", Check.of(THREE + "n2;").gone(10), 3);
        check.due("four for three", Check.of(THREE + "n3;pp0;").gone(10), 7);
        check.due("none", Check.of(THREE + "n0;").gone(99), 0);
    }

    private static void goes() {
        check.promise("Promise 16");
        SoManyForgotten x = Check.of(THREE + "px0;");
        check.due("goes(0)", x.goes(0), 10);
        check.due("goes(1)", x.goes(1), 20);
        check.due("goes(2)", x.goes(2), 30);
        check.due("goes(3) of a dog", x.goes(3), -9);
        check.due("goes(4)", x.goes(4), -1);
        check.due("goes(-1)", x.goes(-1), -1);
        x.weeks(11);
        check.due("goes(0) of one forgotten", x.goes(0), 0);
        check.due("goes(1) behind 11", x.goes(1), 9);
        SoManyForgotten y = Check.of("pw4;pw5;w01;");
        check.due("goes(0) of a wife of 4", y.goes(0), 9);
        check.due("goes(1) of a wife of 5", y.goes(1), -9);
        SoManyForgotten z = Check.of("pp0;px0;w01;n0;");
        check.due("goes(0) without names", z.goes(0), -9);
    }

    private static void next() {
        check.promise("Promise 17");
        SoManyForgotten x = Check.of(THREE + "w03;");
        check.due("next(0)", x.next(0), 0);
        check.due("next(1)", x.next(1), 7);
        check.due("next(2)", x.next(2), 27);
        check.due("next(3)", x.next(3), 7);
        check.due("next(4)", x.next(4), -2);
        check.due("next(-1)", x.next(-1), -2);
        x.weeks(7);
        check.due("next(0) behind a spring", x.next(0), 1);
        check.due("next(1) behind a spring", x.next(1), 10);
        check.due("next(3) behind a spring", x.next(3), 10);
        x.weeks(9);
        check.due("next(3) ahead of one", x.next(3), 1);
        SoManyForgotten y = Check.of("px0;pp0;pp0;n2;r0190;");
        // In the first spring 2 is forgotten ahead of 1: both go first, and 1 is the least.
        check.due("next(0) of two at once", y.next(0), 1);
        check.due("next(1) of two at once", y.next(1), 10);
        check.due("next(2) with a dog", y.next(2), -9);
        y.weeks(10);
        check.due("next(0) of a dog", y.next(0), -9);
        check.due("next(1) of a dog", y.next(1), -9);
        SoManyForgotten z = Check.of("pp0;w10;");
        check.due("next(0) of nobody here", z.next(0), -9);
        check.due("next(1) of nobody here", z.next(1), -9);
        check.due("next(2) of nobody here", z.next(2), 0);
    }

    private static void least() {
        check.promise("Promise 18");
        SoManyForgotten x = Check.of("px0;pp0;pw5;pw4;r1000;r1399;r1299;r0320;");
        // Known: 0 by 100, 1 by 150, 2 by 199, 3 by 169.
        check.due("least(0)", x.least(0), 1);
        check.due("least(1)", x.least(1), 2);
        check.due("least(2)", x.least(2), -2);
        check.due("least(-1)", x.least(-1), -2);
        SoManyForgotten y = Check.of(THREE);
        check.due("least(0) of several", y.least(0), 0);
        check.due("least(1) of several", y.least(1), 0);
        y.recalls(0, 2, 51);
        check.due("least(1) by one more", y.least(1), 2);
        y.recalls(0, 1, 49);
        check.due("least(0) by one less", y.least(0), 1);
        y.weeks(10);
        check.due("least(0) of those here", y.least(0), 0);
        y.weeks(20);
        check.due("least(0) of none", y.least(0), -9);
        check.due("least(1) of none", y.least(1), -9);
        SoManyForgotten z = Check.of("px0;px0;");
        check.due("least(0) of dogs", z.least(0), -9);
        check.due("least(1) of dogs", z.least(1), 0);
    }

    private static void speak() {
        check.promise("Promise 19");
        SoManyForgotten x = Check.of(THREE);
        check.due("speak(0)", x.speak(0), 1);
        check.due("speak(1)", x.speak(1), 0);
        check.due("speak(2)", x.speak(2), -9);
        check.due("speak(3)", x.speak(3), -1);
        check.due("speak(-1)", x.speak(-1), -1);
        // He must gain by 6 on one of the others, who gains as much unless he is remembered by 99.
        SoManyForgotten one = Check.of(THREE + "r0199;r1045;");
        check.due("speak(0) to 1 alone", one.speak(0), 1);
        SoManyForgotten two = Check.of(THREE + "r0299;r2045;");
        check.due("speak(0) to 2 alone", two.speak(0), 2);
        SoManyForgotten none = Check.of(THREE + "r0199;r1040;");
        check.due("speak(0) to none", none.speak(0), -9);
        x.weeks(10);
        check.due("speak(0) of one forgotten", x.speak(0), -3);
        check.due("count(13)", x.count(13), 1);
        // 0 is known by 168 and 2 by 177: to the dog he gains 10, to 2 as well, but 2 gains 5.
        SoManyForgotten y = Check.of("pp0;px0;pp0;w05;r1084;r2084;r0294;r1283;");
        check.due("speak(0) to the dog", y.speak(0), 1);
        check.due("speak(1) of a dog", y.speak(1), -9);
    }

    private static void fewest() {
        check.promise("Promise 20");
        int[] memories = {95, 94, 89, 88, 79, 78, 69, 68};
        int[] due = {0, 1, 1, 2, 2, 3, 3, -9};
        for (int i = 0; i < memories.length; i++) {
            // Both lose 10 until the spring; 1 stays if he is known by as much as 0, 99 at most.
            SoManyForgotten x = Check.of("pp0;pp0;r1095;r01" + memories[i] + ";");
            check.due("fewest(1, 9) by " + memories[i], x.fewest(1, 9), 0);
            check.due("fewest(1, 10) by " + memories[i], x.fewest(1, 10), due[i]);
            check.due("fewest(1, 19) by " + memories[i], x.fewest(1, 19), due[i]);
            check.due("fewest(1, 20) by " + memories[i], x.fewest(1, 20), -9);
        }
        SoManyForgotten y = Check.of(THREE);
        check.due("fewest(0, 0)", y.fewest(0, 0), 0);
        check.due("fewest(0, 10)", y.fewest(0, 10), 1);
        check.due("fewest(0, 60)", y.fewest(0, 60), -9);
        check.due("fewest(3, -1)", y.fewest(3, -1), -1);
        check.due("fewest(0, -1)", y.fewest(0, -1), -4);
        check.due("fewest(0, 61)", y.fewest(0, 61), -6);
        y.weeks(10);
        check.due("fewest(0, 5) of one forgotten", y.fewest(0, 5), -3);
        check.due("fewest(0, -1) of one forgotten", y.fewest(0, -1), -4);
        check.due("fewest(0, 61) of one forgotten", y.fewest(0, 61), -6);
        // He needs two who each remember him by 10 more, as either alone is too little.
        SoManyForgotten z = Check.of("pp0;px0;px0;pp0;r1090;r2090;r3000;r0350;r1375;r2375;w09;");
        check.due("fewest(0, 1) by two others", z.fewest(0, 1), 2);
        fewestByOthers();
    }

    /** He gains 10 by each of 5, 6 and 7 once, and nothing by the others: 663 and 10, 20 or 30. */
    private static void fewestByOthers() {
        SoManyForgotten x = Check.of("pp0;pp0;px0;px0;px0;px0;px0;px0;w09;");
        for (int p = 1; p < 8; p++) {
            x.recalls(p, 0, p < 5 ? 99 : 89);
            x.recalls(p == 1 ? 0 : p, 1, 99);
        }
        int[] ofOne = {68, 69, 78, 79, 88, 89, 98, 99};
        int[] due = {0, 1, 1, 2, 2, 3, 3, -9};
        for (int i = 0; i < due.length; i++) {
            x.recalls(2, 1, ofOne[i]);
            check.due("fewest(0, 1) against " + (594 + ofOne[i]), x.fewest(0, 1), due[i]);
        }
    }

    private static void save() {
        check.promise("Promise 21");
        SoManyForgotten x = Check.of(THREE);
        check.due("save(0)", x.save(0), -9);
        check.due("save(20)", x.save(20), -9);
        check.due("save(30)", x.save(30), 0);
        check.due("save(60)", x.save(60), 0);
        check.due("save(-1)", x.save(-1), -4);
        check.due("save(61)", x.save(61), -6);
        x.weeks(10);
        check.due("save(20) of those here", x.save(20), 1);
        check.due("save(60) of dogs", Check.of("px0;px0;").save(60), -9);
        // With two named each spring 0 goes alone in the second spring: a dog is one more.
        check.due("save(20) by two names", Check.of(THREE + "n2;").save(20), 0);
        check.due("save(19) by two names", Check.of(THREE + "n2;").save(19), -9);
        check.due("save(10) by three names", Check.of("px0;pp0;pp0;n3;").save(10), 1);
    }

    private static void bring() {
        check.promise("Promise 22");
        SoManyForgotten x = Check.of(THREE);
        check.due("bring(0) of none", x.bring(0), -9);
        check.due("bring(1) of none", x.bring(1), -9);
        check.due("bring(2)", x.bring(2), -2);
        check.due("bring(-1)", x.bring(-1), -2);
        x.weeks(10);
        check.due("bring(0)", x.bring(0), 0);
        check.due("bring(1)", x.bring(1), 10);
        x.weeks(22);
        check.due("bring(0) of three", x.bring(0), 0);
        check.due("bring(1) of three", x.bring(1), 8);
        x.turn(2, 5, 5);
        check.due("bring(0) of a wife of 5", x.bring(0), 2);
        check.due("bring(1) of a wife of 5", x.bring(1), 99);
        x.turn(1, 4, 0);
        check.due("bring(0) of two who stay", x.bring(0), 1);
        SoManyForgotten y = Check.of("pp0;pp0;w20;n0;w41;px0;");
        check.due("bring(0) without names", y.bring(0), 0);
        check.due("bring(1) without names", y.bring(1), 99);
        // Back with 20 of each 0 is known by 30 in the next spring, and 2 by 20.
        SoManyForgotten z = Check.of("pp0;pp0;pp0;pp0;w10;r0230;r1205;r3205;");
        check.due("bring(1) behind another", z.bring(1), 20);
    }

    private static void nothingChanges() {
        check.promise("In mind nothing changes");
        SoManyForgotten x = Check.of("pp0;pd3;pk0;pq2;px0;pw4;o150;o320;n2;r0112;r1299;");
        SoManyForgotten y = Check.of("pp0;pd3;pk0;pq2;px0;pw4;o150;o320;n2;r0112;r1299;");
        askAll(x);
        same(x, y);
        x.weeks(13);
        y.weeks(13);
        askAll(x);
        same(x, y);
    }

    private static void askAll(SoManyForgotten x) {
        for (int p = 0; p < 6; p++) {
            x.memoryThen(p, (p + 1) % 6, 30);
            x.knownThen(p, 30);
            x.goes(p);
            x.speak(p);
            x.fewest(p, 30);
            x.power(p, 30);
            x.two(p, (p + 1) % 6, 30);
            x.feast(p, 7, 2, 0);
            x.whatIs(p, (p + 1) % 6, 0);
            x.whatIs(p, (p + 1) % 6, 1);
        }
        for (int what = 0; what < 4; what++) {
            x.next(what);
        }
        x.gone(99);
        x.save(60);
        x.bring(0);
        x.bring(1);
        x.voids(99);
        x.largest(0);
        x.lots(20, 5, 0);
        x.judge();
    }

    private static void same(SoManyForgotten x, SoManyForgotten y) {
        for (int what = 0; what < 8; what++) {
            check.due("count(" + what + ")", x.count(what), y.count(what));
        }
        for (int p = 0; p < 6; p++) {
            for (int what = 0; what < 6; what++) {
                check.due("person(" + p + ", " + what + ")", x.person(p, what), y.person(p, what));
            }
            for (int o = 0; o < 6; o++) {
                check.due("memory(" + p + ", " + o + ")", x.memory(p, o), y.memory(p, o));
            }
        }
    }

    private static void beyondWeek999() {
        check.promise("In thought beyond week 999");
        SoManyForgotten x = Check.of("n0;" + "w60;".repeat(16) + "w39;");
        Check.tell(x, THREE + "n1;");
        check.due("count(1)", x.count(1), 999);
        check.due("goes(0)", x.goes(0), 1);
        check.due("goes(2)", x.goes(2), 21);
        check.due("gone(99)", x.gone(99), 7);
        check.due("memoryThen(0, 1, 99)", x.memoryThen(0, 1, 99), 49);
        check.due("next(2)", x.next(2), 21);
        check.due("next(3)", x.next(3), 1);
        check.due("weeks(1)", x.weeks(1), -6);
    }
}
