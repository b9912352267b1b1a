/** A valley that is full: every call that looks at all people, with eight of them. */
final class FullEdges {
    private static final String EIGHT = "pp0;pp0;pp0;pp0;pp0;pp0;pp0;pp0;";
    private static final String EIGHT_DOGS = "px0;px0;px0;px0;px0;px0;px0;px0;";

    private final Check check;

    FullEdges(Check check) {
        this.check = check;
    }

    void run() {
        check.at("Terms", "PEOPLE 0 .. as they come (8 at most)");
        changes();
        thoughts();
        deeds();
        bonds();
        powers();
        twoAndFeasts();
        rowsAndLots();
        image();
    }

    private void changes() {
        SoManyForgotten x = Check.of(EIGHT);
        check.due("speaks(6, 7)", x.speaks(6, 7), 120);
        check.due("recalls(7, 0, 99)", x.recalls(7, 0, 99), 50);
        check.due("owes(7, 99)", x.owes(7, 99), 0);
        check.due("turn(7, 5, 9)", x.turn(7, 5, 9), 0);
        check.due("person(0, 4)", x.person(0, 4), 399);
        check.due("person(7, 5)", x.person(7, 5), 0);
        // The wife of 9 stays, and 0, whom she remembers well, outlives the others.
        check.due("weeks(60)", x.weeks(60), 2);
        check.due("back(1)", x.back(1), 3);
        check.due("count(2)", x.count(2), 1 + 2 + 128);
        check.due("memory(0, 1)", x.memory(0, 1), 20);
        check.due("memory(7, 1)", x.memory(7, 1), 20);
    }

    private void thoughts() {
        SoManyForgotten x = Check.of(EIGHT);
        check.due("memoryThen(7, 6, 49)", x.memoryThen(7, 6, 49), 1);
        check.due("knownThen(7, 10)", x.knownThen(7, 10), 6 * 40);
        check.due("gone(80)", x.gone(80), 255);
        check.due("goes(7)", x.goes(7), 80);
        check.due("next(0)", x.next(0), 0);
        check.due("next(2)", x.next(2), 80);
        check.due("least(0)", x.least(0), 0);
        check.due("least(1)", x.least(1), 0);
        x.recalls(6, 7, 49);
        check.due("least(0) of the last", x.least(0), 7);
        check.due("next(0) of the last", x.next(0), 7);
        x.recalls(6, 7, 51);
        check.due("least(1) of the last", x.least(1), 7);
    }

    private void deeds() {
        // From week 9 on memory is 0 in week 50, of those who have spoken once in week 60, twice in 70.
        SoManyForgotten x = Check.of(EIGHT + "w09;");
        check.due("speak(0)", x.speak(0), 1);
        check.due("speak(7)", x.speak(7), -9);
        check.due("fewest(0, 0)", x.fewest(0, 0), 0);
        check.due("fewest(0, 1)", x.fewest(0, 1), 1);
        check.due("fewest(0, 50)", x.fewest(0, 50), 1);
        check.due("fewest(0, 51)", x.fewest(0, 51), 2);
        check.due("fewest(0, 60)", x.fewest(0, 60), 2);
        check.due("save(60)", x.save(60), -9);
        x.names(3);
        check.due("save(60) by three", x.save(60), 0);
        x.weeks(30);
        check.due("count(2)", x.count(2), 0);
        check.due("bring(0)", x.bring(0), 0);
        check.due("bring(1)", x.bring(1), 1);
        x.turn(7, 4, 0);
        check.due("bring(0) of the last", x.bring(0), 7);
        check.due("bring(1) of the last", x.bring(1), 99);
    }

    private void bonds() {
        SoManyForgotten x = Check.of(EIGHT_DOGS);
        check.due("league(7)", x.league(7), 127);
        check.due("largest(0)", x.largest(0), 255);
        check.due("largest(1)", x.largest(1), 8);
        check.due("cold(0)", x.cold(0), 0);
        check.due("cold(1)", x.cold(1), -9);
        check.due("envy(0)", x.envy(0), 1);
        check.due("envy(7)", x.envy(7), 0);
        x.recalls(7, 6, 49);
        check.due("envy(7) of 6", x.envy(7), 6);
        check.due("league(7) without 6", x.league(7), 63);
        check.due("largest(0) without 7", x.largest(0), 127);
        check.due("hill()", x.hill(), 0);
        check.due("voids(99)", x.voids(99), 0);
        check.due("mean(0)", x.mean(0), 2799);
        check.due("mean(1)", x.mean(1), 8);
    }

    private void powers() {
        SoManyForgotten x = Check.of(EIGHT);
        // Without his voice the others go one ahead of their turn until week 50, when all are known by 0.
        check.due("power(0, 49)", x.power(0, 49), 49);
        check.due("power(0, 60)", x.power(0, 60), 49);
        check.due("power(7, 60)", x.power(7, 60), 0);
        check.due("power(7, 60) of a dog", Check.of(EIGHT_DOGS).power(7, 60), 0);
    }

    private void twoAndFeasts() {
        check.due("two(6, 7, 30)", Check.of(EIGHT_DOGS).two(6, 7, 30), 11);
        check.due("two(0, 7, 0)", Check.of(EIGHT).two(0, 7, 0), 11);
        SoManyForgotten x = Check.of(EIGHT + "w09;");
        check.due("feast(0, 7, 20, 0)", x.feast(0, 7, 20, 0), 0);
        check.due("feast(7, 7, 20, 0)", x.feast(7, 7, 20, 0), 1);
        // 7 lacks 1, and a feast makes all alike at 99.
        SoManyForgotten y = Check.of("px0;".repeat(6) + "pp0;pp0;n0;w09;n1;");
        for (int one = 0; one < 8; one++) {
            y.recalls(one, 6, 99);
            y.recalls(one, 7, one == 0 ? 98 : 99);
        }
        check.due("feast(7, 1, 20, 0)", y.feast(7, 1, 20, 0), 1);
        check.due("feast(7, 1, 20, 1)", y.feast(7, 1, 20, 1), 20);
        check.due("feast(6, 1, 20, 0)", y.feast(6, 1, 20, 0), 19);
    }

    private void rowsAndLots() {
        SoManyForgotten x = Check.of(EIGHT);
        Check.rowOf(x, 50, 49);
        check.due("whatIs(7, 0, 0)", x.whatIs(7, 0, 0), 1 + 4);
        check.due("whatIs(0, 7, 0)", x.whatIs(0, 7, 0), 1 + 4);
        check.due("whatIs(7, 6, 1)", x.whatIs(7, 6, 1), 1023);
        x.clear();
        Check.rowOf(x, 8, 8, 8, 8, 8, 8, 8, 8, 8, 8, 7, 8);
        check.due("judge()", x.judge(), 11);
        check.due("lots(20, 3, 0)", x.lots(20, 3, 0), 120);
        SoManyForgotten dogs = Check.of(EIGHT_DOGS);
        check.due("lots(20, 3, 0) of dogs", dogs.lots(20, 3, 0), 160);
        check.due("lots(1, 3, 1) of dogs", dogs.lots(1, 3, 1), BondsEdges.draws(3, 56));
        check.due("lots(20, 3, 1) of dogs", dogs.lots(20, 3, 1), BondsEdges.draws(3, 20 * 56));
    }

    private void image() {
        SoManyForgotten x = Check.of("pp0;");
        x.image();
        Check.tell(x, EIGHT.substring(4) + "o799;r7699;w05;");
        String full = Look.at(x);
        x.on();
        check.due("count(0)", x.count(0), 1);
        Check.tell(x, EIGHT.substring(4) + "o799;r7699;w05;");
        check.alike("the same told again", Look.at(x), full);
        x.image();
        x.weeks(60);
        x.on();
        check.alike("the full image", Look.at(x), full);
    }
}
