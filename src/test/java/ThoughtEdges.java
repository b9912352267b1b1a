/** The edges of promises 13 to 22, and of the terms about what is asked in mind. */
final class ThoughtEdges {
    private static final String THREE = "pp0;pp0;pp0;";
    /** All alike: the least goes each spring, 0 behind 10 weeks and 7 behind 80. */
    private static final String EIGHT = "pp0;pp0;pp0;pp0;pp0;pp0;pp0;pp0;";

    private final Check check;

    ThoughtEdges(Check check) {
        this.check = check;
    }

    void run() {
        memoryThen();
        knownThen();
        gone();
        goes();
        next();
        empty();
        spring();
        least();
        bestKnown();
        speak();
        fewest();
        fewestByRoom();
        save();
        bring();
        beyond999();
    }

    private static SoManyForgotten lateValley(int week, String text) {
        SoManyForgotten x = Check.atWeek(Check.of("n0;"), week);
        Check.tell(x, text);
        return x;
    }

    private void memoryThen() {
        check.at("Terms", "In mind, n WEEKS on (0 .. 99): MEMORY of one of another");
        SoManyForgotten x = Check.of("pp0;px0;n0;r1099;");
        for (int n = 0; n <= 99; n++) {
            check.due("memoryThen(1, 0, " + n + ")", x.memoryThen(1, 0, n), 99 - n);
            check.due("memoryThen(0, 1, " + n + ")", x.memoryThen(0, 1, n), 50);
        }
        check.at("Promise 13", "MEMORY");
        SoManyForgotten y = Check.of(THREE);
        check.due("memoryThen(1, 0, 9) ahead of the spring", y.memoryThen(1, 0, 9), 41);
        check.due("memoryThen(1, 0, 10) behind the spring", y.memoryThen(1, 0, 10), 0);
        check.due("memoryThen(0, 1, 99) of one who goes", y.memoryThen(0, 1, 99), 40);
        check.due("memory(1, 0) stays", y.memory(1, 0), 50);
        y.weeks(10);
        check.due("memoryThen(0, 1, 0) of one forgotten", y.memoryThen(0, 1, 0), 40);
        check.due("memoryThen(0, 1, 99) of one forgotten", y.memoryThen(0, 1, 99), 40);
    }

    private void knownThen() {
        check.at("Terms", "KNOWN of one");
        SoManyForgotten x = Check.of("pp0;px0;px0;n0;r1099;r2098;");
        check.due("knownThen(0, 0)", x.knownThen(0, 0), 197);
        check.due("knownThen(0, 1)", x.knownThen(0, 1), 195);
        check.due("knownThen(0, 98)", x.knownThen(0, 98), 1);
        check.due("knownThen(0, 99)", x.knownThen(0, 99), 0);
        check.at("Promise 14", "KNOWN");
        SoManyForgotten y = Check.of("pp0;pp0;px0;r2101;");
        check.due("knownThen(1, 9)", y.knownThen(1, 9), 41);
        // 1 goes, and those here remember him by 0; 0 loses his voice.
        check.due("knownThen(1, 10)", y.knownThen(1, 10), 0);
        check.due("knownThen(0, 9)", y.knownThen(0, 9), 82);
        check.due("knownThen(0, 10)", y.knownThen(0, 10), 40);
        y.weeks(10);
        y.recalls(2, 1, 44);
        check.due("knownThen(1, 0) of one forgotten", y.knownThen(1, 0), 44);
        check.due("knownThen(1, 99) of one forgotten", y.knownThen(1, 99), 44);
        check.due("one alone", Check.of("px0;").knownThen(0, 99), 0);
    }

    private void gone() {
        check.at("Terms", "who is FORGOTTEN (bits)");
        SoManyForgotten x = Check.of(EIGHT);
        for (int n = 0; n <= 99; n++) {
            check.due("gone(" + n + ")", x.gone(n), (1 << Math.min(8, n / 10)) - 1);
        }
        check.at("Promise 15", "Who is FORGOTTEN (bits)");
        check.due("gone(99) of nobody", new SoManyForgotten().gone(99), 0);
        check.due("gone(99) of dogs", Check.of("px0;px0;").gone(99), 0);
        check.due("gone(0) now", Check.of(EIGHT + "n3;w10;").gone(0), 7);
        check.due("gone(30) by three", Check.of(EIGHT + "n3;").gone(30), 255);
        check.due("gone(29) by three", Check.of(EIGHT + "n3;").gone(29), 63);
    }

    private void goes() {
        check.at("Terms", "GOES: behind how many WEEKS (0 .. 99) one is FORGOTTEN first (0 he is); -9");
        SoManyForgotten x = Check.of(EIGHT);
        for (int one = 0; one < 8; one++) {
            check.due("goes(" + one + ")", x.goes(one), 10 * (one + 1));
        }
        x.weeks(9);
        check.due("goes(0) one week ahead", x.goes(0), 1);
        check.due("goes(7)", x.goes(7), 71);
        x.weeks(1);
        check.due("goes(0) of one forgotten", x.goes(0), 0);
        check.due("goes(1) just behind a spring", x.goes(1), 10);
        check.at("Promise 16", "GOES");
        check.due("the latest of all", Check.of(EIGHT).goes(7), 80);
        x.back(0);
        check.due("goes(0) of one back", x.goes(0), 10);
        check.at("Promise 16", "-9");
        check.due("a dog", Check.of("px0;").goes(0), -9);
        check.due("a wife of 5", Check.of("pw5;").goes(0), -9);
        check.due("a wife of 4", Check.of("pw4;").goes(0), 10);
        check.due("without names", Check.of("pp0;n0;").goes(0), -9);
    }

    private void next() {
        check.at("Terms", "NEXT: of those HERE who is FORGOTTEN first, of several the least; -9");
        SoManyForgotten x = Check.of(EIGHT);
        for (int one = 0; one < 8; one++) {
            check.due("next(0)", x.next(0), one);
            x.weeks(10);
        }
        check.due("next(0) of nobody here", x.next(0), -9);
        // 3 goes ahead of 1 and 2 in the one spring: all go first, and 1 is the least.
        check.due("next(0) of three at once", Check.of("px0;pp0;pp0;pp0;n3;r0300;").next(0), 1);
        check.due("next(0) of one alone at once", Check.of("px0;pp0;pp0;pp0;n1;r0300;").next(0), 3);
        check.at("Terms", "when");
        SoManyForgotten y = Check.of(EIGHT);
        for (int week = 0; week < 20; week++) {
            check.due("next(1) in week " + week, y.next(1), 10 - week % 10);
            y.weeks(1);
        }
        check.at("Promise 17", "NEXT: who (what 0; -9), when (1; -9), EMPTY (2; -9), SPRING (3)");
        for (SoManyForgotten none : new SoManyForgotten[] {new SoManyForgotten(), Check.of("px0;pw5;"), Check.of("pp0;n0;")}) {
            check.due("next(0) of none", none.next(0), -9);
            check.due("next(1) of none", none.next(1), -9);
        }
        SoManyForgotten behind = Check.of("pp0;px0;w10;");
        check.due("next(0), one forgotten already", behind.next(0), -9);
        check.due("next(1), one forgotten already", behind.next(1), -9);
    }

    private void empty() {
        check.at("Terms", "EMPTY: behind how many WEEKS (0 .. 99) nobody is HERE; -9");
        check.due("next(2) of nobody", new SoManyForgotten().next(2), 0);
        check.due("next(2) of all forgotten", Check.of("pp0;w10;").next(2), 0);
        check.due("next(2) of eight", Check.of(EIGHT).next(2), 80);
        check.due("next(2) of eight by three", Check.of(EIGHT + "n3;").next(2), 30);
        check.due("next(2) of one, a week ahead", Check.of("pp0;w09;").next(2), 1);
        check.due("next(2) with a dog", Check.of("px0;pp0;").next(2), -9);
        check.due("next(2) without names", Check.of("pp0;n0;").next(2), -9);
    }

    private void spring() {
        check.at("Terms", "SPRING: in how many WEEKS (1 .. 10) the next is");
        SoManyForgotten x = new SoManyForgotten();
        for (int week = 0; week <= 30; week++) {
            check.due("next(3) in week " + week, x.next(3), 10 - week % 10);
            x.weeks(1);
        }
        check.due("next(3) in week 990", Check.atWeek(new SoManyForgotten(), 990).next(3), 10);
        check.due("next(3) in week 999", Check.atWeek(new SoManyForgotten(), 999).next(3), 1);
        check.due("next(3) without names", Check.of("n0;w01;").next(3), 9);
    }

    private void least() {
        check.at("Terms", "LEAST: of those HERE who may be NAMED the one least KNOWN, of several the least; -9");
        SoManyForgotten x = Check.of("px0;pw5;pp0;pp0;pw4;");
        check.due("least(0) of several", x.least(0), 2);
        x.recalls(0, 3, 49);
        check.due("least(0) by one less", x.least(0), 3);
        x.recalls(0, 4, 49);
        check.due("least(0) of several again", x.least(0), 3);
        x.recalls(1, 4, 49);
        check.due("least(0) of a wife of 4", x.least(0), 4);
        x.recalls(2, 0, 0);
        x.recalls(3, 0, 0);
        x.recalls(4, 1, 0);
        check.due("least(0) but for a dog and a wife of 5", x.least(0), 4);
        x.weeks(10);
        // The wife of 4 has grown; 3 goes, and 2 is left.
        check.due("count(2)", x.count(2), 23);
        check.due("least(0) of those here", x.least(0), 2);
        check.at("Promise 18", "LEAST (what 0; -9)");
        check.due("least(0) of nobody", new SoManyForgotten().least(0), -9);
        check.due("least(0) of none who may", Check.of("px0;pw5;pw9;").least(0), -9);
        check.due("least(0) of one alone", Check.of("pp0;").least(0), 0);
        check.due("least(0) of the last", Check.of("px0;".repeat(7) + "pp0;").least(0), 7);
        check.due("least(0) of all forgotten", Check.of("pp0;w10;").least(0), -9);
    }

    private void bestKnown() {
        check.at("Terms", "BEST KNOWN of those HERE: likewise most");
        SoManyForgotten x = Check.of("pp0;px0;pw5;");
        check.due("least(1) of several", x.least(1), 0);
        x.recalls(0, 1, 51);
        check.due("least(1) of a dog", x.least(1), 1);
        x.recalls(0, 2, 51);
        check.due("least(1) of several again", x.least(1), 1);
        x.recalls(1, 2, 51);
        check.due("least(1) of a wife of 5", x.least(1), 2);
        x.recalls(1, 0, 99);
        x.recalls(2, 0, 40);
        check.due("least(1) of a person", x.least(1), 0);
        x.weeks(10);
        check.due("count(2)", x.count(2), 6);
        x.recalls(1, 0, 99);
        x.recalls(2, 0, 99);
        check.due("least(1) but for one forgotten", x.least(1), 2);
        check.at("Promise 18", "BEST KNOWN (1; -9)");
        check.due("least(1) of nobody", new SoManyForgotten().least(1), -9);
        check.due("least(1) of all forgotten", Check.of("pp0;w10;").least(1), -9);
        check.due("least(1) of one alone, known by 0", Check.of("px0;").least(1), 0);
        check.due("least(1) by 0 each", Check.of("pp0;pp0;r0100;r1000;").least(1), 0);
    }

    private void speak() {
        check.at("Terms", "SPEAK: to whom one who is HERE had better SPEAK once now so that he GOES latest");
        // In week 9 he is known by 100 and 2 by 105; to the dog he alone gains, to 2 both do.
        check.due("to the dog alone", Check.of("pp0;px0;pp0;n0;w09;n1;r1050;r2050;r0253;r1252;").speak(0), 1);
        // Alone he goes in week 10; to 1 he outlives 2 and to 2 he outlives 1, but to the dog (3) both.
        SoManyForgotten x = Check.of("pp0;pp0;pp0;px0;n0;w09;n1;", "r1035;r2030;r3035;r0140;r2130;r3135;r0233;r1235;r3235;");
        check.due("of all the latest", x.speak(0), 3);
        check.due("goes(0) if not", x.goes(0), 1);
        x.speaks(0, 3);
        check.due("goes(0) then", x.goes(0), 21);
        check.at("Terms", "later than if not, of several the least; -9");
        check.due("of several the least", Check.of("pp0;px0;px0;pp0;").speak(0), 1);
        check.due("as late as if not", Check.of("pp0;pp0;pp0;r1000;r2000;").speak(0), -9);
        check.due("by a tie he goes all the same", Check.of("pp0;pp0;r1098;r0199;").speak(0), -9);
        check.at("Terms", "(never: latest of all)");
        check.due("a dog never goes", Check.of("px0;pp0;").speak(0), -9);
        check.due("a wife of 5 never goes", Check.of("pw5;pp0;").speak(0), -9);
        check.due("without names nobody goes", Check.of("pp0;pp0;n0;").speak(0), -9);
        check.at("Promise 19", "-9");
        check.due("one alone", Check.of("pp0;").speak(0), -9);
        check.due("nobody else here", Check.of("pp0;pp0;w10;").speak(1), -9);
        check.at("Promise 19", "SPEAK");
        check.due("by 89 he is known as 0, by 99", Check.of("pp0;pp0;r0189;r1099;").speak(1), 0);
        check.due("by 88 he is not", Check.of("pp0;pp0;r0188;r1099;").speak(1), -9);
        check.due("by 99 he is from the first", Check.of("pp0;pp0;r0199;r1099;").speak(1), -9);
    }

    private void fewest() {
        check.at("Terms", "FEWEST: the fewest times (0 .. 3) one must SPEAK now (each time to anybody HERE)");
        // 0 is known by 99 and stays there; 1 needs as much, and each time gives him 10.
        int[] memories = {99, 98, 89, 88, 79, 78, 69, 68, 0};
        int[] due = {0, 1, 1, 2, 2, 3, 3, -9, -9};
        for (int i = 0; i < due.length; i++) {
            SoManyForgotten x = Check.of("pp0;pp0;n0;w09;n1;");
            x.recalls(1, 0, 99);
            x.recalls(0, 1, memories[i]);
            check.due("fewest(1, 1) by " + memories[i], x.fewest(1, 1), due[i]);
            check.due("fewest(1, 0) by " + memories[i], x.fewest(1, 0), 0);
        }
        check.at("Promise 20", "FEWEST");
        check.due("fewest(0, 0)", Check.of("pp0;").fewest(0, 0), 0);
        check.due("fewest(0, 9)", Check.of("pp0;").fewest(0, 9), 0);
        check.due("fewest(0, 60) of a dog", Check.of("px0;").fewest(0, 60), 0);
        check.due("fewest(7, 60) of eight", Check.of(EIGHT).fewest(7, 60), 0);
        check.due("fewest(5, 59) of eight", Check.of(EIGHT).fewest(5, 59), 0);
        check.at("Promise 20", "-9");
        check.due("fewest(0, 10) of one alone", Check.of("pp0;").fewest(0, 10), -9);
        check.due("fewest(0, 60) of three", Check.of(THREE).fewest(0, 60), -9);
        check.due("fewest(2, 30) of three", Check.of(THREE).fewest(2, 30), -9);
        check.due("fewest(2, 29) of three", Check.of(THREE).fewest(2, 29), 0);
    }

    private void fewestByRoom() {
        check.at("Terms", "(each time to anybody HERE) so that he is HERE behind n WEEKS (0 .. 60)");
        // Only the dogs 2, 3 and 4 have room for him, by 10 each: he needs one, two or all of them. He is
        // known by 366, 1 by 297 and what 4 remembers; at a tie he goes.
        SoManyForgotten x = Check.of("pp0;pp0;px0;px0;px0;n0;w09;n1;", "r1099;r2089;r3089;r4089;r0199;r2199;r3199;");
        int[] ofOne = {68, 69, 78, 79, 88, 89, 98, 99};
        int[] due = {0, 1, 1, 2, 2, 3, 3, -9};
        for (int i = 0; i < due.length; i++) {
            x.recalls(4, 1, ofOne[i]);
            check.due("fewest(0, 1) against " + (297 + ofOne[i]), x.fewest(0, 1), due[i]);
        }
        x.weeks(1);
        check.due("count(2)", x.count(2), 30);
    }

    private void save() {
        check.at("Terms", "SAVE: the one HERE who, were he a DOG now, makes most be HERE behind n WEEKS (0 .. 60)");
        check.due("save(10) of one", Check.of("pp0;").save(10), 0);
        check.due("save(60) of one", Check.of("pp0;").save(60), 0);
        check.due("save(60) of seven", Check.of(EIGHT.substring(4)).save(60), -9);
        check.due("save(60) of six", Check.of(EIGHT.substring(8)).save(60), 0);
        check.at("Terms", "more than else, of several the least; -9");
        check.due("save(9) of one", Check.of("pp0;").save(9), -9);
        check.due("save(0) of one", Check.of("pp0;").save(0), -9);
        check.due("save(10) of two", Check.of("pp0;pp0;").save(10), -9);
        check.due("save(20) of two", Check.of("pp0;pp0;").save(20), 0);
        check.at("Promise 21", "SAVE");
        check.due("save(10) of the one here", Check.of("pp0;pp0;w10;").save(10), 1);
        check.due("save(20) but for a dog", Check.of("px0;pp0;").save(20), 1);
        check.due("save(20) of a wife of 4", Check.of("pw5;pw4;").save(20), 1);
        check.at("Promise 21", "-9");
        check.due("save(60) of nobody", new SoManyForgotten().save(60), -9);
        check.due("save(60) of dogs", Check.of("px0;px0;").save(60), -9);
        check.due("save(60) without names", Check.of("pp0;pp0;n0;").save(60), -9);
        check.due("save(60) of all forgotten", Check.of("pp0;w10;").save(60), -9);
    }

    private void bring() {
        check.at("Terms", "BRING: of those FORGOTTEN the one who, BACK now, is HERE longest, of several the least; -9");
        SoManyForgotten x = Check.of("pp0;pp0;pp0;px0;n3;w10;n1;");
        check.due("bring(0) of three alike", x.bring(0), 0);
        check.due("bring(1) of three alike", x.bring(1), 10);
        x.turn(1, 5, 5);
        check.due("bring(0) of a wife of 5", x.bring(0), 1);
        x.turn(2, 4, 0);
        check.due("bring(0) of two who stay", x.bring(0), 1);
        check.at("Terms", "how many WEEKS (99 at most: 99)");
        check.due("bring(1) of one who stays", x.bring(1), 99);
        check.due("bring(1) without names", Check.of("pp0;w10;n0;").bring(1), 99);
        check.due("bring(1) a week ahead", Check.of("pp0;w19;").bring(1), 1);
        check.due("bring(1) just behind a spring", Check.of("pp0;w20;").bring(1), 10);
        check.at("Promise 22", "BRING: who (what 0; -9), how many WEEKS (1; -9)");
        for (SoManyForgotten none : new SoManyForgotten[] {new SoManyForgotten(), Check.of("pp0;px0;")}) {
            check.due("bring(0) of none", none.bring(0), -9);
            check.due("bring(1) of none", none.bring(1), -9);
        }
        // Back, 0 is known by 20 in the next spring and 2 by 0: so he goes only in the one behind.
        SoManyForgotten y = Check.of("pp0;px0;pp0;w10;r1210;r0205;");
        check.due("count(2)", y.count(2), 6);
        check.due("bring(0)", y.bring(0), 0);
        check.due("bring(1) of one who outlives another", y.bring(1), 20);
    }

    private void beyond999() {
        check.at("Terms", "(In thought WEEK may pass 999.)");
        SoManyForgotten x = lateValley(999, EIGHT + "n1;");
        check.due("goes(0)", x.goes(0), 1);
        check.due("goes(7)", x.goes(7), 71);
        check.due("gone(0)", x.gone(0), 0);
        check.due("gone(1)", x.gone(1), 1);
        check.due("gone(99)", x.gone(99), 255);
        check.due("next(0)", x.next(0), 0);
        check.due("next(1)", x.next(1), 1);
        check.due("next(2)", x.next(2), 71);
        check.due("memoryThen(6, 7, 71)", x.memoryThen(6, 7, 60), 0);
        check.due("knownThen(7, 1)", x.knownThen(7, 1), 6 * 49);
        check.due("fewest(0, 1)", x.fewest(0, 1), 1);
        check.due("speak(0)", x.speak(0), 1);
        check.due("save(60)", x.save(60), -9);
        check.due("voids(99)", x.voids(99), 0);
        check.due("power(0, 60)", lateValley(999, THREE + "n1;").power(0, 60), 20);
        check.due("count(1)", x.count(1), 999);
        check.due("weeks(1)", x.weeks(1), -6);
    }
}
