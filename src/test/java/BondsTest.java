/** Promises 23 to 37: leagues, powers, debts, the hill, two, feasts, rows and lots. */
final class BondsTest {
    private static final Check check = new Check();
    private static final String THREE = "pp0;pp0;pp0;";

    public static void main(String[] args) {
        league();
        largest();
        cold();
        envy();
        power();
        voids();
        hill();
        two();
        feast();
        mean();
        whatIs();
        row();
        judge();
        clear();
        lots();
        check.finish();
    }

    private static void league() {
        check.promise("Promise 23");
        SoManyForgotten x = Check.of("pp0;pp0;pp0;pp0;r0149;r2049;r3099;");
        check.due("league(0)", x.league(0), 8);
        check.due("league(1)", x.league(1), 4 + 8);
        check.due("league(2)", x.league(2), 2 + 8);
        check.due("league(3)", x.league(3), 1 + 2 + 4);
        check.due("league(4)", x.league(4), -1);
        check.due("league(-1)", x.league(-1), -1);
        SoManyForgotten y = Check.of("pp0;px0;px0;w10;r0199;r1099;");
        check.due("league(0) of one forgotten", y.league(0), -3);
        check.due("league(1) without the forgotten", y.league(1), 4);
        check.due("league of one alone", Check.of("pp0;").league(0), 0);
    }

    private static void largest() {
        check.promise("Promise 24");
        check.due("largest(0) of nobody", new SoManyForgotten().largest(0), 0);
        check.due("largest(1) of nobody", new SoManyForgotten().largest(1), 0);
        SoManyForgotten x = Check.of("pp0;pp0;pp0;pp0;");
        check.due("largest(0) of all", x.largest(0), 15);
        check.due("largest(1) of all", x.largest(1), 4);
        check.due("largest(2)", x.largest(2), -2);
        check.due("largest(-1)", x.largest(-1), -2);
        x.recalls(0, 3, 49);
        check.due("largest(0) of several", x.largest(0), 7);
        x.recalls(2, 1, 10);
        check.due("largest(0) of two", x.largest(0), 3);
        check.due("largest(1) of two", x.largest(1), 2);
        x.recalls(1, 0, 0);
        x.recalls(0, 2, 0);
        check.due("largest(0) of 1 and 3", x.largest(0), 10);
        x.recalls(1, 3, 0);
        x.recalls(2, 3, 0);
        check.due("largest(0) of one", x.largest(0), 1);
        check.due("largest(1) of one", x.largest(1), 1);
        SoManyForgotten y = Check.of("pp0;px0;px0;w10;r1099;r0199;r2099;r0299;");
        check.due("largest(0) without the forgotten", y.largest(0), 6);
    }

    private static void cold() {
        check.promise("Promise 25");
        SoManyForgotten x = Check.of("pp0;px0;px0;px0;r1200;r2100;r1300;r2300;r3200;");
        check.due("cold(0)", x.cold(0), 2);
        check.due("cold(1)", x.cold(1), 12);
        x.recalls(3, 1, 0);
        check.due("cold(0) of three", x.cold(0), 3);
        x.recalls(1, 2, 1);
        check.due("cold(1) behind", x.cold(1), 13);
        x.recalls(0, 3, 0);
        x.recalls(3, 0, 0);
        check.due("cold(1) ahead", x.cold(1), 3);
        check.due("cold(0) with 0", x.cold(0), 3);
        x.weeks(10);
        check.due("cold(0) without the forgotten", x.cold(0), 2);
        check.due("cold(1) without the forgotten", x.cold(1), 13);
        check.due("cold(2)", x.cold(2), -2);
        check.due("cold(-1)", x.cold(-1), -2);
        check.due("cold(0) of none", Check.of(THREE).cold(0), 0);
        check.due("cold(1) of none", Check.of(THREE).cold(1), -9);
    }

    private static void envy() {
        check.promise("Promise 26");
        SoManyForgotten x = Check.of("pp0;px0;px0;px0;r1299;r1399;r2040;r2340;r3001;");
        check.due("envy(0) of several", x.envy(0), 1);
        check.due("envy(1)", x.envy(1), 0);
        check.due("envy(2) of several", x.envy(2), 0);
        x.recalls(2, 3, 39);
        check.due("envy(2)", x.envy(2), 3);
        check.due("envy(4)", x.envy(4), -1);
        check.due("envy(-1)", x.envy(-1), -1);
        x.weeks(10);
        check.due("envy(0) of one forgotten", x.envy(0), -3);
        check.due("envy(1) of those here", x.envy(1), 2);
        check.due("envy of one alone", Check.of("pp0;").envy(0), -9);
        check.due("envy with nobody else here", Check.of("px0;pp0;w10;").envy(0), -9);
    }

    private static void power() {
        check.promise("Promise 27");
        SoManyForgotten x = Check.of(THREE);
        // Without his voice 1 and 2 go ahead of him: LEAST is 1, 2, 0 by tens and not 0, 1, 2.
        check.due("power(0, 1)", x.power(0, 1), 1);
        check.due("power(0, 9)", x.power(0, 9), 9);
        check.due("power(0, 29)", x.power(0, 29), 29);
        check.due("power(0, 30)", x.power(0, 30), 29);
        check.due("power(0, 60)", x.power(0, 60), 29);
        // Without the voice of 2 it is a tie again for a while: 0 goes first all the same.
        check.due("power(2, 9)", x.power(2, 9), 0);
        check.due("power(0, 0)", x.power(0, 0), -4);
        check.due("power(0, 61)", x.power(0, 61), -6);
        check.due("power(3, 0)", x.power(3, 0), -1);
        x.weeks(10);
        check.due("power(0, 5) of one forgotten", x.power(0, 5), -3);
        check.due("power(0, 0) of one forgotten", x.power(0, 0), -4);
        check.due("power(0, 61) of one forgotten", x.power(0, 61), -6);
        check.due("power(1, 10)", x.power(1, 10), 10);
        check.due("power of one known by 1", Check.of("pd0;pd0;r1001;").power(0, 5), 5);
        check.due("power of a dog without others", Check.of("px0;").power(0, 60), 0);
    }

    private static void voids() {
        check.promise("Promise 28");
        SoManyForgotten x = Check.of(THREE + "o030;o141;o205;");
        check.due("voids(1)", x.voids(1), 0);
        check.due("voids(9)", x.voids(9), 0);
        check.due("voids(10)", x.voids(10), 30);
        check.due("voids(20)", x.voids(20), 71);
        check.due("voids(99)", x.voids(99), 76);
        check.due("voids(0)", x.voids(0), -4);
        check.due("voids(100)", x.voids(100), -6);
        x.weeks(10);
        x.owes(0, 99);
        check.due("voids(10) without the forgotten", x.voids(10), 41);
        check.due("voids(99) of those who stay", Check.of("px0;o099;").voids(99), 0);
    }

    private static void hill() {
        check.promise("Promise 29");
        SoManyForgotten x = Check.of("pp0;pp0;pp0;px0;");
        check.due("hill() of nobody", x.hill(), 0);
        x.weeks(10);
        check.due("hill() of one", x.hill(), 0);
        x.weeks(10);
        check.due("hill() of two", x.hill(), 40);
        x.recalls(1, 0, 7);
        check.due("hill() of both of them", x.hill(), 47);
        x.recalls(3, 0, 90);
        x.recalls(0, 3, 90);
        check.due("hill() without those here", x.hill(), 47);
        x.weeks(10);
        check.due("hill() of three", x.hill(), 47 + 40 + 30);
    }

    private static void two() {
        check.promise("Promise 30");
        check.due("two with one other", Check.of("px0;px0;").two(0, 1, 0), 0);
        check.due("two with three others each", Check.of("px0;px0;px0;px0;").two(0, 1, 5), 0);
        check.due("two with four others each", Check.of("px0;px0;px0;px0;px0;").two(0, 1, 30), 11);
        SoManyForgotten x = Check.of("px0;px0;px0;px0;px0;r1099;r2099;");
        check.due("two(0, 1, 9) of one well known", x.two(0, 1, 9), 1);
        check.due("two(1, 0, 9) of one well known", x.two(1, 0, 9), 10);
        check.due("two by 31 more", Check.of("px0;px0;px0;px0;px0;r4098;").two(0, 1, 9), 11);
        check.due("two by 30 more", Check.of("px0;px0;px0;px0;px0;r4099;").two(0, 1, 9), 1);
        check.due("two(0, 0, -1)", x.two(0, 0, -1), -1);
        check.due("two(5, 0, -1)", x.two(5, 0, -1), -1);
        check.due("two(0, -1, 31)", x.two(0, -1, 31), -1);
        check.due("two(0, 1, -1)", x.two(0, 1, -1), -4);
        check.due("two(0, 1, 31)", x.two(0, 1, 31), -6);
        // 00 has 0 and 75, 10 has 42 and 0, 11 has -30 and 55, 01 has 0 and 55.
        SoManyForgotten y = Check.of("pd1;pp3;pd6;r0101;r0281;r1008;r1289;r2062;r2186;w05;");
        check.due("two(0, 1, 6) without rest", y.two(0, 1, 6), -9);
        check.due("two(1, 0, 6) without rest", y.two(1, 0, 6), -9);
        y.weeks(5);
        check.due("two of one forgotten", y.two(0, 1, 5), -3);
        check.due("two with one forgotten", y.two(1, 0, 5), -3);
        check.due("two of one forgotten, below", y.two(0, 1, -1), -4);
        check.due("two of one forgotten, above", y.two(0, 1, 31), -6);
    }

    private static void fraction(String call, long above, long below, long dueAbove, long dueBelow) {
        check.due(call + " above the line", above, dueAbove);
        check.due(call + " below the line", below, dueBelow);
    }

    private static void feast() {
        check.promise("Promise 31");
        // A feast lifts both to 99, and then 0 goes as the least; without one 1 goes.
        SoManyForgotten x = Check.of("pp0;pp0;w09;r1099;r0198;");
        fraction("feast(0, 1, 4)", x.feast(0, 1, 4, 0), x.feast(0, 1, 4, 1), 3, 4);
        fraction("feast(1, 1, 4)", x.feast(1, 1, 4, 0), x.feast(1, 1, 4, 1), 1, 4);
        fraction("feast(1, 7, 20)", x.feast(1, 7, 20, 0), x.feast(1, 7, 20, 1), 1, 20);
        fraction("feast(0, 7, 2)", x.feast(0, 7, 2, 0), x.feast(0, 7, 2, 1), 1, 2);
        fraction("feast(1, 0, 2)", x.feast(1, 0, 2, 0), x.feast(1, 0, 2, 1), 1, 1);
        fraction("feast(0, 0, 2)", x.feast(0, 0, 2, 0), x.feast(0, 0, 2, 1), 1, 1);
        // They are 4 apart two weeks ahead: only two feasts make them alike.
        SoManyForgotten y = Check.of("pp0;pp0;w08;r1099;r0196;");
        fraction("feast(0, 2, 3)", y.feast(0, 2, 3, 0), y.feast(0, 2, 3, 1), 8, 9);
        fraction("feast(1, 2, 20)", y.feast(1, 2, 20, 0), y.feast(1, 2, 20, 1), 1, 400);
        fraction("feast(0, 1, 3)", y.feast(0, 1, 3, 0), y.feast(0, 1, 3, 1), 1, 1);
        // Without a feast both are known by 97 behind the week, with one 0 by 99 and 1 by 98.
        SoManyForgotten z = Check.of("pd0;pp0;w09;r1097;r0198;");
        fraction("feast(0, 1, 5)", z.feast(0, 1, 5, 0), z.feast(0, 1, 5, 1), 1, 5);
        x.weeks(1);
        fraction("feast of one forgotten", x.feast(1, 7, 20, 0), x.feast(1, 7, 20, 1), 0, 1);
        long refused = 4000000000000000000L;
        check.due("feast(2, -1, 1, 2)", x.feast(2, -1, 1, 2), refused + 1);
        check.due("feast(-1, 0, 2, 0)", x.feast(-1, 0, 2, 0), refused + 1);
        check.due("feast(0, -1, 21, 2)", x.feast(0, -1, 21, 2), refused + 4);
        check.due("feast(0, 8, 1, 2)", x.feast(0, 8, 1, 2), refused + 4);
        check.due("feast(0, 8, 2, 2)", x.feast(0, 8, 2, 2), refused + 6);
        check.due("feast(0, 7, 21, 2)", x.feast(0, 7, 21, 2), refused + 6);
        check.due("feast(0, 7, 20, 2)", x.feast(0, 7, 20, 2), refused + 2);
        check.due("feast(0, 7, 20, -1)", x.feast(0, 7, 20, -1), refused + 2);
        check.due("count(11)", x.count(11), 2);
        check.due("count(12)", x.count(12), 2);
        check.due("count(14)", x.count(14), 2);
        check.due("count(16)", x.count(16), 2);
    }

    private static void mean() {
        check.promise("Promise 32");
        SoManyForgotten x = new SoManyForgotten();
        fraction("mean of nobody", x.mean(0), x.mean(1), 0, 1);
        Check.tell(x, "pp0;pp0;pp0;pp0;");
        fraction("mean of four", x.mean(0), x.mean(1), 150, 1);
        x.recalls(0, 1, 51);
        fraction("mean by 4", x.mean(0), x.mean(1), 601, 4);
        x.recalls(1, 0, 51);
        fraction("mean by 2", x.mean(0), x.mean(1), 301, 2);
        x.weeks(10);
        fraction("mean of three", x.mean(0), x.mean(1), 242, 3);
        check.due("mean(2)", x.mean(2), 4000000000000000002L);
        check.due("mean(-1)", x.mean(-1), 4000000000000000002L);
        check.due("count(12)", x.count(12), 2);
        fraction("mean of one", Check.of("px0;").mean(0), Check.of("px0;").mean(1), 0, 1);
    }

    private static void whatIs() {
        check.promise("Promise 33");
        SoManyForgotten x = Check.of("px0;pd3;");
        check.due("kinds by no row", x.whatIs(1, 0, 0), 63);
        check.due("figures by no row", x.whatIs(1, 0, 1), 1023);
        Check.rowOf(x, 50);
        check.due("kinds by now", x.whatIs(1, 0, 0), 63);
        Check.rowOf(x, 49, 48);
        check.due("a person or a kindly one", x.whatIs(1, 0, 0), 1 + 4);
        check.due("a debtor by no figure", x.whatIs(1, 0, 1), 0);
        check.due("the row stays", x.count(6), 3);
        x.clear();
        Check.rowOf(x, 50, 53, 56);
        check.due("a quarreller of 3", x.whatIs(1, 0, 0), 8);
        x.turn(1, 3, 9);
        check.due("a quarreller of 9", x.whatIs(1, 0, 0), 0);
        check.due("figures of a quarreller", x.whatIs(1, 0, 1), 8);
        x.owes(1, 40);
        check.due("figures of one who owes", x.whatIs(1, 0, 1), 128);
        x.clear();
        Check.rowOf(x, 50, 51, 50);
        check.due("a wife", x.whatIs(1, 0, 0), 32);
        x.clear();
        Check.rowOf(x, 50, 50, 50);
        check.due("a dog", x.whatIs(1, 0, 0), 16);
        x.recalls(0, 1, 49);
        check.due("nothing", x.whatIs(1, 0, 0), 0);
        check.due("of the other one", x.whatIs(0, 1, 0), 2 + 8 + 16);
        // He is named in the next spring if he may be: of a wife by figures 0 to 4.
        SoManyForgotten y = Check.of("px0;pw7;w09;");
        Check.rowOf(y, 57, 0);
        check.due("figures of a wife", y.whatIs(1, 0, 1), 31);
        check.due("whatIs(1, 1, 2)", y.whatIs(1, 1, 2), -1);
        check.due("whatIs(2, 0, 2)", y.whatIs(2, 0, 2), -1);
        check.due("whatIs(0, -1, 2)", y.whatIs(0, -1, 2), -1);
        check.due("whatIs(1, 0, 2)", y.whatIs(1, 0, 2), -2);
        check.due("whatIs(1, 0, -1)", y.whatIs(1, 0, -1), -2);
    }

    private static void row() {
        check.promise("Promise 34");
        SoManyForgotten x = new SoManyForgotten();
        check.due("row(-1)", x.row(-1), -4);
        check.due("row(100)", x.row(100), -6);
        for (int i = 1; i <= 16; i++) {
            check.due("row", x.row(i % 2 == 0 ? 0 : 99), i);
        }
        check.due("row(5) as the 17th", x.row(5), -6);
        check.due("row(-1) as the 17th", x.row(-1), -4);
        check.due("count(6)", x.count(6), 16);
        check.due("count(14)", x.count(14), 2);
        check.due("count(16)", x.count(16), 2);
    }

    private static void judge() {
        check.promise("Promise 35");
        SoManyForgotten x = Check.of(THREE + "w06;");
        check.due("judge() of no row", x.judge(), -9);
        Check.rowOf(x, 3, 3, 3, 3, 2, 2, 2, 2, 2, 2, 2, 2, 2, 2, 1, 1);
        check.due("judge() of one that is so", x.judge(), -9);
        check.due("the row has none", x.count(6), 0);
        Check.rowOf(x, 3, 3, 3, 2, 2, 3);
        check.due("judge() of one that is not so", x.judge(), 3);
        check.due("the row has none then, too", x.count(6), 0);
        Check.rowOf(x, 2);
        check.due("judge() of now", x.judge(), 0);
        Check.rowOf(x, 3, 3, 3, 3, 2, 2, 2, 2, 2, 2, 2, 2, 2, 2, 1, 2);
        check.due("judge() of the last", x.judge(), 15);
    }

    private static void clear() {
        check.promise("Promise 36");
        SoManyForgotten x = new SoManyForgotten();
        check.due("clear() of none", x.clear(), 0);
        Check.rowOf(x, 1, 2, 3);
        check.due("clear()", x.clear(), 3);
        check.due("count(6)", x.count(6), 0);
        check.due("row(9)", x.row(9), 1);
    }

    private static void lots() {
        check.promise("Promise 37");
        // Of dogs memory stays as it is drawn: by the seed 7 77 and 65, then 96 and 60.
        SoManyForgotten x = Check.of("px0;px0;");
        check.due("lots(1, 7, 0)", x.lots(1, 7, 0), 2);
        check.due("lots(1, 7, 1)", x.lots(1, 7, 1), 77 + 65);
        check.due("lots(2, 7, 1)", x.lots(2, 7, 1), 77 + 65 + 96 + 60);
        check.due("lots(20, 7, 0)", x.lots(20, 7, 0), 40);
        int z = 7;
        int known = 0;
        for (int i = 1; i <= 20; i++) {
            for (int draw = 0; draw < 2; draw++) {
                z = z * 1664525 + 1013904223;
                known += ((z << 1) >>> 1) / 256 % 100;
            }
            check.due("lots(" + i + ", 7, 1)", x.lots(i, 7, 1), known);
        }
        // What the dog remembers is 20 less behind 20 weeks.
        SoManyForgotten w = Check.of("px0;pp0;n0;");
        check.due("lots(1, 7, 1) of 20 weeks", w.lots(1, 7, 1), 77 - 20 + 65);
        check.due("lots(0, 7, 2)", x.lots(0, 7, 2), -4);
        check.due("lots(21, 7, 2)", x.lots(21, 7, 2), -6);
        check.due("lots(1, 7, 2)", x.lots(1, 7, 2), -2);
        check.due("lots(1, 7, -1)", x.lots(1, 7, -1), -2);
        // Two springs of three alike leave one whom nobody remembers, whatever is drawn.
        SoManyForgotten y = Check.of(THREE);
        check.due("lots(20, -5, 0)", y.lots(20, -5, 0), 20);
        check.due("lots(20, -5, 1)", y.lots(20, -5, 1), 0);
        y.weeks(15);
        check.due("lots(3, 1, 0) behind a spring", y.lots(3, 1, 0), 0);
        check.due("lots of nobody", new SoManyForgotten().lots(20, Integer.MIN_VALUE, 0), 0);
    }
}
