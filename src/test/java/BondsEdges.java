import java.util.Arrays;

/** The edges of promises 23 to 37, and of the terms about leagues, voices, feasts, rows and lots. */
final class BondsEdges {
    private static final String THREE = "pp0;pp0;pp0;";
    private static final String EIGHT = "pp0;pp0;pp0;pp0;pp0;pp0;pp0;pp0;";
    private static final String EIGHT_DOGS = "px0;px0;px0;px0;px0;px0;px0;px0;";

    private final Check check;

    BondsEdges(Check check) {
        this.check = check;
    }

    void run() {
        league();
        largest();
        cold();
        envy();
        power();
        voids();
        hill();
        two();
        feast();
        feastOfSeven();
        mean();
        whatIs();
        figures();
        row();
        judge();
        clear();
        lots();
        draws();
    }

    private void league() {
        check.at("Terms", "LEAGUE of one HERE: those HERE (bits) of whom he has MEMORY 50 or more and they of him");
        int[][] memories = {{50, 50, 2}, {49, 50, 0}, {50, 49, 0}, {49, 49, 0}, {99, 50, 2}, {51, 99, 2}, {0, 99, 0}};
        for (int[] m : memories) {
            SoManyForgotten x = Check.of("pp0;px0;");
            x.recalls(0, 1, m[0]);
            x.recalls(1, 0, m[1]);
            check.due("league(0) by " + m[0] + " and " + m[1], x.league(0), m[2]);
            check.due("league(1) by " + m[0] + " and " + m[1], x.league(1), m[2] / 2);
        }
        check.at("Promise 23", "LEAGUE (bits)");
        check.due("one alone", Check.of("pp0;").league(0), 0);
        SoManyForgotten all = Check.of(EIGHT_DOGS);
        check.due("league(0) of all", all.league(0), 254);
        check.due("league(7) of all", all.league(7), 127);
        SoManyForgotten y = Check.of("pp0;px0;px0;w10;");
        y.recalls(1, 0, 99);
        check.due("league(1) without one forgotten", y.league(1), 4);
    }

    private void largest() {
        check.at("Terms", "LARGEST: the most HERE (bits, of several the least) of whom each two are so; how many");
        SoManyForgotten x = Check.of(EIGHT_DOGS);
        check.due("largest(0) of eight", x.largest(0), 255);
        check.due("largest(1) of eight", x.largest(1), 8);
        x.recalls(7, 0, 49);
        check.due("largest(0) without 0 and 7 together", x.largest(0), 127);
        check.due("largest(1) without 0 and 7 together", x.largest(1), 7);
        check.at("Promise 24", "LARGEST: which (what 0, bits), how many (1)");
        largestOf("", 0, 0);
        largestOf("pp0;", 1, 1);
        largestOf("pp0;pp0;r0149;", 1, 1);
        largestOf("pp0;pp0;r0150;", 3, 2);
        largestOf("pp0;w10;", 0, 0);
        largestOf("pp0;px0;w10;", 2, 1);
        // 0 and 3 are one league and 1 and 2 another: 6 is less than 9.
        largestOf("px0;px0;px0;px0;r0100;r0200;r1300;r2300;", 6, 2);
        largestOf("px0;px0;px0;px0;r0100;r0200;r1300;r2300;r1249;", 9, 2);
    }

    private void largestOf(String text, int which, int many) {
        SoManyForgotten x = text.isEmpty() ? new SoManyForgotten() : Check.of(text);
        check.due("largest(0) of \"" + text + "\"", x.largest(0), which);
        check.due("largest(1) of \"" + text + "\"", x.largest(1), many);
    }

    private void cold() {
        check.at("Terms", "COLD: how many twos HERE have MEMORY 0 of each other; the first (10 the lesser and the other); -9");
        SoManyForgotten x = Check.of("px0;px0;r0100;");
        check.due("cold(0) by 0 and 50", x.cold(0), 0);
        check.due("cold(1) by 0 and 50", x.cold(1), -9);
        x.recalls(1, 0, 1);
        check.due("cold(0) by 0 and 1", x.cold(0), 0);
        x.recalls(1, 0, 0);
        check.due("cold(0) by 0 and 0", x.cold(0), 1);
        check.due("cold(1) by 0 and 0", x.cold(1), 1);
        x.recalls(0, 1, 1);
        check.due("cold(0) by 1 and 0", x.cold(0), 0);
        check.at("Promise 25", "COLD: how many (what 0), the first (1; -9)");
        SoManyForgotten all = Check.of(EIGHT_DOGS);
        all.recalls(6, 7, 0);
        all.recalls(7, 6, 0);
        check.due("cold(1) of the last two", all.cold(1), 67);
        for (int one = 0; one < 8; one++) {
            for (int other = 0; other < 8; other++) {
                all.recalls(one, other, 0);
            }
        }
        check.due("cold(0) of eight", all.cold(0), 28);
        check.due("cold(1) of eight", all.cold(1), 1);
        check.due("cold(0) of nobody", new SoManyForgotten().cold(0), 0);
        check.due("cold(1) of nobody", new SoManyForgotten().cold(1), -9);
        check.due("cold(0) of one", Check.of("pp0;").cold(0), 0);
        SoManyForgotten gone = Check.of("pp0;px0;r0100;r1000;w10;");
        check.due("cold(0) with one forgotten", gone.cold(0), 0);
        check.due("cold(1) with one forgotten", gone.cold(1), -9);
    }

    private void envy() {
        check.at("Terms", "ENVY: whom one of those HERE has least MEMORY of, of several the least (of others HERE); -9");
        SoManyForgotten x = Check.of("px0;px0;px0;pp0;");
        check.due("envy(0) of several", x.envy(0), 1);
        check.due("envy(2) of several", x.envy(2), 0);
        x.recalls(0, 3, 49);
        check.due("envy(0) by one less", x.envy(0), 3);
        x.recalls(0, 2, 49);
        check.due("envy(0) of two", x.envy(0), 2);
        x.recalls(0, 1, 0);
        check.due("envy(0) by 0", x.envy(0), 1);
        check.at("Promise 26", "ENVY");
        x.weeks(10);
        x.recalls(0, 1, 99);
        check.due("count(2)", x.count(2), 7);
        check.due("envy(0) but for one forgotten, by 0", x.envy(0), 2);
        check.due("envy by 99 each", Check.of("px0;px0;r0199;").envy(0), 1);
        check.at("Promise 26", "-9");
        check.due("envy of one alone", Check.of("px0;").envy(0), -9);
        check.due("envy with none else here", Check.of("px0;pp0;w10;").envy(0), -9);
    }

    private void power() {
        check.at("Terms", "POWER of one HERE: behind how many of the next n WEEKS (1 .. 60) LEAST (-9, too) is another one than else");
        // With his voice 0, 1 and 2 go in this order, without it 1, 2 and 0; from week 30 on none is LEAST.
        SoManyForgotten x = Check.of(THREE);
        for (int n = 1; n <= 60; n++) {
            check.due("power(0, " + n + ")", x.power(0, n), Math.min(n, 29));
        }
        check.at("Terms", "were his MEMORY of all others 0 now");
        check.due("by 0 already", Check.of(THREE + "r0100;r0200;").power(0, 60), 0);
        check.due("by 1 at once", Check.of("pd0;pd0;r1000;r0101;").power(0, 9), 0);
        check.due("by 1 over a tie", Check.of("pd0;pd0;r1001;r0101;").power(1, 9), 0);
        check.due("by 1 ahead", Check.of("pd0;pd0;r1001;r0100;").power(1, 9), 9);
        check.at("Promise 27", "POWER");
        check.due("one alone", Check.of("pp0;").power(0, 60), 0);
        check.due("of dogs", Check.of("px0;px0;").power(0, 60), 0);
        // With the dog's voice 0 is known by 100 and 1 by 99, without it by 49 and 50.
        SoManyForgotten y = Check.of("pp0;pp0;px0;r1049;r0150;r2051;r2149;");
        check.due("power(2, 1) of a dog", y.power(2, 1), 1);
        check.due("power(2, 9) of a dog", y.power(2, 9), 9);
    }

    private void voids() {
        check.at("Terms", "VOID: OWES, as it is now, of all who are HERE now and FORGOTTEN behind n WEEKS (1 .. 99), together");
        SoManyForgotten x = Check.of(EIGHT, "o099;o199;o299;o399;o499;o599;o699;o799;");
        for (int n = 1; n <= 99; n++) {
            check.due("voids(" + n + ")", x.voids(n), 99 * Math.min(8, n / 10));
        }
        check.at("Promise 28", "VOID");
        check.due("voids(1) a week ahead", Check.of("pp0;o012;w09;").voids(1), 12);
        check.due("voids(99) of nobody", new SoManyForgotten().voids(99), 0);
        check.due("voids(99) of a dog", Check.of("px0;o099;").voids(99), 0);
        SoManyForgotten gone = Check.of("pp0;pp0;o055;o166;w10;o077;");
        check.due("voids(9) with one forgotten who owes", gone.voids(9), 0);
        check.due("voids(10) with one forgotten who owes", gone.voids(10), 66);
        check.due("count(5) stays", gone.count(5), 143);
    }

    private void hill() {
        check.at("Terms", "HILL: of all twos FORGOTTEN the MEMORY of both of each other together");
        check.due("hill() of nobody", new SoManyForgotten().hill(), 0);
        SoManyForgotten x = Check.of("pp0;pp0;px0;");
        check.due("hill() of none forgotten", x.hill(), 0);
        x.weeks(10);
        check.due("hill() of one", x.hill(), 0);
        x.weeks(10);
        check.due("hill() of two", x.hill(), 40);
        x.recalls(0, 1, 99);
        x.recalls(1, 0, 98);
        check.due("hill() of both of each other", x.hill(), 197);
        x.back(0);
        check.due("hill() of one again", x.hill(), 0);
        check.at("Promise 29", "HILL");
        SoManyForgotten all = Check.of(EIGHT + "n3;w30;");
        for (int one = 0; one < 8; one++) {
            for (int other = 0; other < 8; other++) {
                all.recalls(one, other, 99);
            }
        }
        check.due("hill() of eight, by 99 each", all.hill(), 56 * 99);
    }

    private void two() {
        check.at("Terms", "TWO HERE, each SPEAKS to all others HERE now (1) or not (0), the first ahead");
        // One who speaks is known by 10 more by each other, who lose nothing by it.
        check.due("to three others each, by 30", Check.of("px0;".repeat(4)).two(0, 1, 30), 0);
        check.due("to four others each, by 40", Check.of("px0;".repeat(5)).two(0, 1, 0), 11);
        check.due("to four others each, by 40", Check.of("px0;".repeat(5)).two(3, 1, 30), 11);
        check.due("with one forgotten, by 30", Check.of("px0;".repeat(4) + "pp0;w10;").two(0, 1, 5), 0);
        check.at("Terms", "each wants most KNOWN behind n WEEKS (0 .. 30), 30 less, if he has SPOKEN");
        // 0 gains 30 and what 4 has room for; for as much as 30 he has no more by speaking.
        int[] memories = {99, 98, 90, 89};
        int[] due = {1, 11, 11, 11};
        for (int i = 0; i < due.length; i++) {
            SoManyForgotten x = Check.of("px0;".repeat(5));
            x.recalls(4, 0, memories[i]);
            check.due("two(0, 1, 9) by " + memories[i], x.two(0, 1, 9), due[i]);
            check.due("two(1, 0, 9) by " + memories[i], x.two(1, 0, 9), due[i] == 1 ? 10 : 11);
        }
        check.at("Terms", "the first pair (10 the first's and the other's) by which neither has more by another one alone; -9");
        check.due("all pairs alike", Check.of("px0;".repeat(4)).two(2, 3, 0), 0);
        check.at("Promise 30", "TWO");
        check.due("two(0, 1, 0) of two alone", Check.of("pp0;pp0;").two(0, 1, 0), 0);
        // Behind the spring nobody is left who could know either: both have 0, or 30 less.
        check.due("two(0, 1, 10) of two alone", Check.of("pp0;pp0;").two(0, 1, 10), 0);
        check.at("Promise 30", "-9");
        check.due("two(0, 1, 6) without rest", unsettled().two(0, 1, 6), -9);
        check.due("two(1, 0, 6) without rest", unsettled().two(1, 0, 6), -9);
        check.due("two(0, 1, 0) with it", unsettled().two(0, 1, 0), 0);
    }

    /** By weeks 6 on: 00 has 0 and 75, 10 has 42 and 0, 11 has -30 and 55, 01 has 0 and 55. */
    private static SoManyForgotten unsettled() {
        return Check.of("pd1;pp3;pd6;r0101;r0281;r1008;r1289;r2062;r2186;w05;");
    }

    private void fraction(String call, long above, long below, long dueAbove, long dueBelow) {
        check.due(call + " above the line", above, dueAbove);
        check.due(call + " below the line", below, dueBelow);
    }

    private void feast(SoManyForgotten x, int one, int n, int t, long dueAbove, long dueBelow) {
        String call = "feast(" + one + ", " + n + ", " + t + ")";
        fraction(call, x.feast(one, n, t, 0), x.feast(one, n, t, 1), dueAbove, dueBelow);
    }

    private void feast() {
        check.at("Terms", "FEAST: in each of n WEEKS (0 .. 7), by itself, with odds 1 in t (2 .. 20)");
        // A feast lifts both to 99, and then 0 goes as the least; without one 1 goes.
        SoManyForgotten x = Check.of("pp0;pp0;n0;w09;n1;r1099;r0198;");
        feast(x, 0, 0, 2, 1, 1);
        feast(x, 1, 0, 20, 1, 1);
        for (int t = 2; t <= 20; t++) {
            feast(x, 0, 1, t, t - 1, t);
            feast(x, 1, 1, t, 1, t);
            feast(x, 1, 7, t, 1, t);
        }
        check.at("Terms", "MEMORY of all HERE of all HERE is 2 more, ahead of it");
        // 0 loses 1 from 99 whatever comes, 1 as well: from 97 he has 98 by a feast, and 96 without.
        feast(Check.of("pp0;pp0;n0;w09;n1;r1099;r0197;"), 1, 1, 3, 1, 3);
        feast(Check.of("pp0;pp0;n0;w09;n1;r1099;r0196;"), 1, 1, 3, 0, 1);
        feast(Check.of("pp0;pp0;n0;w09;n1;r1099;r0199;"), 1, 1, 3, 1, 1);
        check.at("Terms", "how likely one is HERE behind these: a fraction");
        feast(Check.of("px0;"), 0, 7, 20, 1, 1);
        feast(Check.of("pp0;w09;"), 0, 7, 20, 0, 1);
        feast(Check.of("pp0;w03;"), 0, 6, 20, 1, 1);
        feast(Check.of("pp0;w03;"), 0, 7, 20, 0, 1);
        SoManyForgotten gone = Check.of("pp0;px0;w10;");
        feast(gone, 0, 0, 2, 0, 1);
        feast(gone, 0, 7, 20, 0, 1);
        feast(gone, 1, 7, 20, 1, 1);
        // What one forgotten remembers, and what is remembered of him, has no part in feasts.
        check.due("memory(0, 1)", gone.memory(0, 1), 50);
    }

    /** He is here only if each of the seven weeks has its feast, which lifts him to 98, as the other. */
    private void feastOfSeven() {
        check.at("Promise 31", "FEAST, part 0 above, 1 below the line");
        SoManyForgotten x = Check.of("pp0;pp0;n0;w03;n1;r1099;r0191;");
        feast(x, 1, 7, 20, 1, 1280000000L);
        feast(x, 0, 7, 20, 1279999999L, 1280000000L);
        feast(x, 1, 7, 2, 1, 128);
        feast(x, 0, 7, 3, 2186, 2187);
        feast(x, 1, 6, 20, 1, 1);
        SoManyForgotten less = Check.of("pp0;pp0;n0;w03;n1;r1099;r0190;");
        feast(less, 1, 7, 20, 0, 1);
        // From 96 in week 8 he is lifted to 98 by two feasts, by fewer not.
        SoManyForgotten two = Check.of("pp0;pp0;n0;w08;n1;r1099;r0196;");
        feast(two, 1, 2, 20, 1, 400);
        feast(two, 0, 2, 2, 3, 4);
    }

    private void mean() {
        check.at("Terms", "MEAN: of KNOWN of those HERE: a fraction (0 by 1 of nobody)");
        SoManyForgotten none = new SoManyForgotten();
        fraction("mean of nobody", none.mean(0), none.mean(1), 0, 1);
        SoManyForgotten gone = Check.of("pp0;w10;");
        fraction("mean of all forgotten", gone.mean(0), gone.mean(1), 0, 1);
        SoManyForgotten alone = Check.of("pp0;");
        fraction("mean of one alone", alone.mean(0), alone.mean(1), 0, 1);
        check.at("Promise 32", "MEAN");
        SoManyForgotten x = Check.of(EIGHT);
        fraction("mean of eight", x.mean(0), x.mean(1), 350, 1);
        int[][] due = {{2801, 8}, {1401, 4}, {2803, 8}, {701, 2}};
        for (int i = 0; i < due.length; i++) {
            x.recalls(i, 7, 51);
            fraction("mean by " + (i + 1) + " more", x.mean(0), x.mean(1), due[i][0], due[i][1]);
        }
        SoManyForgotten cold = Check.of("px0;px0;r0100;r1000;");
        fraction("mean by 0 each", cold.mean(0), cold.mean(1), 0, 1);
        SoManyForgotten most = Check.of("px0;px0;r0199;r1099;");
        fraction("mean by 99 each", most.mean(0), most.mean(1), 99, 1);
        SoManyForgotten half = Check.of("px0;px0;pp0;w10;r0100;r1001;r0299;r1299;r2099;");
        fraction("mean without one forgotten", half.mean(0), half.mean(1), 1, 2);
    }

    private void whatIs() {
        check.at("Terms", "WHAT ONE IS: a ROW tells MEMORY of a told one of him behind 0, 1, .. WEEKS: KINDS (bits) of him by which all of it is so");
        SoManyForgotten x = Check.of("px0;pp3;o120;n0;w06;r0150;");
        check.due("by no row", x.whatIs(1, 0, 0), 63);
        kinds(x, 63, 50);
        kinds(x, 0, 49);
        kinds(x, 1 + 4, 50, 49);
        kinds(x, 2, 50, 48);
        kinds(x, 8 + 32, 50, 51);
        kinds(x, 8, 50, 51, 52);
        kinds(x, 32, 50, 51, 53);
        kinds(x, 16, 50, 50);
        kinds(x, 1, 50, 49, 48);
        kinds(x, 4, 50, 49, 51);
        kinds(x, 4, 50, 49, 51, 53, 55, 54, 53, 52, 51, 50, 49, 48, 50, 52, 54, 53);
        kinds(x, 0, 50, 49, 51, 53, 55, 54, 53, 52, 51, 50, 49, 48, 50, 52, 54, 54);
        kinds(x, 16, 50, 50, 50, 50, 50, 50, 50, 50, 50, 50, 50, 50, 50, 50, 50, 50);
        check.at("Promise 33", "WHAT ONE IS by the ROW (it stays), the second told of: KINDS (what 0, bits), FIGURES (1)");
        Check.rowOf(x, 50, 50);
        check.due("the dog, of the other", x.whatIs(0, 1, 0), 2 + 8 + 16);
        check.due("the other, of the dog", x.whatIs(1, 0, 0), 16);
        check.due("the row stays", x.clear(), 2);
        check.due("his kind stays", x.person(1, 0), 0);
        // In the next spring he goes if he may be named, whatever is remembered of him.
        SoManyForgotten y = Check.of("px0;pp5;n0;w09;n1;r0150;");
        kinds(y, 1 + 2 + 4 + 8, 50, 0);
        kinds(y, 16, 50, 50);
        kinds(y, 32, 50, 52);
        y.turn(1, 0, 4);
        kinds(y, 1 + 2 + 4 + 8 + 32, 50, 0);
        y.weeks(1);
        kinds(y, 63, 0, 0, 0);
        kinds(y, 0, 0, 0, 1);
    }

    private void kinds(SoManyForgotten x, int due, int... row) {
        whatIs(x, 0, due, row);
    }

    private void whatIs(SoManyForgotten x, int what, int due, int... row) {
        x.clear();
        Check.rowOf(x, row);
        check.due("whatIs(1, 0, " + what + ") by " + Arrays.toString(row), x.whatIs(1, 0, what), due);
        check.due("count(6)", x.count(6), row.length);
        x.clear();
    }

    private void figures() {
        check.at("Terms", "FIGURES (bits 0 .. 9)");
        SoManyForgotten x = Check.of("px0;pq3;n0;");
        check.due("by no row", x.whatIs(1, 0, 1), 1023);
        for (int figure = 0; figure <= 9; figure++) {
            whatIs(x, 1, 1 << figure, 50, 50 + figure);
        }
        whatIs(x, 1, 0, 50, 60);
        whatIs(x, 1, 0, 50, 49);
        whatIs(x, 1, 1023, 50);
        x.recalls(0, 1, 95);
        whatIs(x, 1, 1023 - 15, 95, 99);
        check.due("his figure stays", x.person(1, 1), 3);
        SoManyForgotten person = Check.of("px0;pp3;n0;");
        whatIs(person, 1, 1023, 50, 49);
        whatIs(person, 1, 0, 50, 50);
        SoManyForgotten wife = Check.of("px0;pw3;n0;w09;n1;r0150;");
        whatIs(wife, 1, 31, 50, 0);
        whatIs(wife, 1, 1023 - 31, 50, 52);
    }

    private void row() {
        check.at("Promise 34", "A number more of the ROW (0 .. 99): how many");
        SoManyForgotten x = new SoManyForgotten();
        check.due("row(0)", x.row(0), 1);
        check.due("row(99)", x.row(99), 2);
        check.due("row(-1)", x.row(-1), -4);
        check.due("row(100)", x.row(100), -6);
        check.due("row(50)", x.row(50), 3);
        check.at("Terms", "A ROW of numbers (0 .. 99; 16 at most)");
        for (int i = 4; i <= 16; i++) {
            check.due("row", x.row(i), i);
        }
        check.due("row(5) as the 17th", x.row(5), -6);
        check.due("count(6)", x.count(6), 16);
        x.clear();
        check.due("row(5) anew", x.row(5), 1);
    }

    private void judged(SoManyForgotten x, int due, int... row) {
        Check.rowOf(x, row);
        check.due("judge() of " + Arrays.toString(row), x.judge(), due);
        check.due("count(6) behind it", x.count(6), 0);
    }

    private void judge() {
        check.at("Terms", "JUDGED: how many are HERE behind 0, 1, .. WEEKS: the first that is not so; -9");
        SoManyForgotten x = Check.of(THREE + "w08;");
        judged(x, -9, 3, 3, 2, 2);
        judged(x, 0, 2, 3, 2, 2);
        judged(x, 1, 3, 2, 2, 2);
        judged(x, 2, 3, 3, 3, 2);
        judged(x, 3, 3, 3, 2, 99);
        judged(x, 1, 3, 0, 0, 0);
        judged(x, -9, 3, 3, 2, 2, 2, 2, 2, 2, 2, 2, 2, 2, 1, 1, 1, 1);
        judged(x, 15, 3, 3, 2, 2, 2, 2, 2, 2, 2, 2, 2, 2, 1, 1, 1, 0);
        check.at("Promise 35", "JUDGED");
        check.due("count(1) stays", x.count(1), 8);
        judged(new SoManyForgotten(), -9, 0, 0, 0);
        judged(new SoManyForgotten(), 0, 1);
        judged(Check.of(EIGHT_DOGS), -9, 8, 8);
        judged(Check.of("pp0;w09;"), -9, 1, 0, 0);
        check.at("Promise 35", "-9 (the ROW has none then)");
        judged(x, -9);
        judged(x, -9, 3);
        judged(x, 0, 4);
    }

    private void clear() {
        check.at("Promise 36", "The ROW has none then: how many it had");
        SoManyForgotten x = new SoManyForgotten();
        check.due("clear() of none", x.clear(), 0);
        check.due("clear() of one", Check.rowOf(x, 7).clear(), 1);
        check.due("clear() of 16", Check.rowOf(x, 1, 2, 3, 4, 5, 6, 7, 8, 9, 10, 11, 12, 13, 14, 15, 16).clear(), 16);
        check.due("count(6)", x.count(6), 0);
        check.due("clear() again", x.clear(), 0);
    }

    private void lots() {
        check.at("Terms", "LOTS with a seed z: n valleys (1 .. 20)");
        SoManyForgotten dogs = Check.of("px0;px0;px0;");
        check.due("lots(1, 5, 0)", dogs.lots(1, 5, 0), 3);
        check.due("lots(20, 5, 0)", dogs.lots(20, 5, 0), 60);
        check.at("Terms", "then 20 WEEKS: how many are HERE of all together");
        check.due("two springs of eight", Check.of(EIGHT).lots(1, 5, 0), 6);
        check.due("two springs of eight by three", Check.of(EIGHT + "n3;").lots(20, 5, 0), 40);
        check.due("three springs could not be", Check.of(EIGHT + "w09;").lots(1, 5, 0), 6);
        check.due("two springs of three, one gone", Check.of(THREE + "w10;").lots(20, 5, 0), 0);
        check.at("Promise 37", "LOTS: HERE (what 0), KNOWN (1)");
        check.due("lots(20, 5, 0) of nobody", new SoManyForgotten().lots(20, 5, 0), 0);
        check.due("lots(20, 5, 1) of nobody", new SoManyForgotten().lots(20, 5, 1), 0);
        check.due("lots(20, 5, 1) of one", Check.of("px0;").lots(20, 5, 1), 0);
        check.at("Terms", "KNOWN of those HERE");
        check.due("lots(20, 5, 1) of one who is left", Check.of(THREE).lots(20, 5, 1), 0);
        check.due("memory stays", dogs.memory(0, 1), 50);
    }

    /** The sum of so many draws behind the seed, worked out in numbers that are never below 0. */
    static int draws(int z, int many) {
        long seed = z & 0xffffffffL;
        int sum = 0;
        for (int i = 0; i < many; i++) {
            seed = (seed * 1664525L + 1013904223L) % 4294967296L;
            sum += seed % 2147483648L / 256 % 100;
        }
        return sum;
    }

    private void draws() {
        check.at("Terms", "A DRAW below m: z becomes z times 1664525 and 1013904223 (an int)");
        // From 0 the seed becomes 1013904223; by 256 that is 3960563, cut.
        SoManyForgotten x = Check.of("px0;pp0;n0;");
        SoManyForgotten dogs = Check.of("px0;px0;");
        check.due("draws(0, 1)", draws(0, 1), 63);
        int[] seeds = {0, 1, -1, 2, 7, 255, 256, 65535, -65536, 1664525, Integer.MAX_VALUE, Integer.MIN_VALUE};
        for (int z : seeds) {
            check.due("lots(1, " + z + ", 1)", dogs.lots(1, z, 1), draws(z, 2));
            check.due("lots(20, " + z + ", 1)", dogs.lots(20, z, 1), draws(z, 40));
        }
        check.at("Terms", "(z without its sign's bit by 256, cut) modulo m");
        // From 1 the seed becomes 1015568748, by 256 3967065: 65; from -1 it is 1012239698, 3954061: 61.
        check.due("draws(1, 1)", draws(1, 1), 65);
        check.due("draws(-1, 1)", draws(-1, 1), 61);
        check.at("Terms", "MEMORY of each of each other one, by numbers (of 0 of 1, 2, .., of 1 of 0, 2, ..), a DRAW below 100");
        // What the dog (0) remembers of 1 is drawn first and fades by 20; what 1 remembers of it stays.
        for (int z : seeds) {
            int first = draws(z, 1);
            int second = draws(z, 2) - first;
            check.due("lots(1, " + z + ", 1) of one who fades", x.lots(1, z, 1), Math.max(0, first - 20) + second);
            SoManyForgotten y = Check.of("pp0;px0;n0;");
            check.due("lots(1, " + z + ", 1) of the other", y.lots(1, z, 1), first + Math.max(0, second - 20));
        }
        ordered();
    }

    /** One of three who is a quarreller of 9 becomes 99 for both: then the draws of the four others count. */
    private void ordered() {
        for (int risen = 0; risen < 3; risen++) {
            SoManyForgotten x = Check.of("px0;px0;px0;n0;");
            x.turn(risen, 3, 9);
            int due = 198;
            int draw = 0;
            for (int one = 0; one < 3; one++) {
                for (int other = 0; other < 3; other++) {
                    if (one != other) {
                        due += other == risen ? 0 : draws(5, draw + 1) - draws(5, draw);
                        draw++;
                    }
                }
            }
            check.due("lots(1, 5, 1), " + risen + " by 99", x.lots(1, 5, 1), due);
        }
    }
}
