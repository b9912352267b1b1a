/** The edges of promises 1 to 3 and of the terms about letters: what is told, and every fault of it. */
final class TellingEdges {
    /** Each statement with what stands at its places: "k" a letter of a kind, "0" a digit, else itself. */
    private static final String[][] STATEMENTS = {
        {"pp0;", "pk0;"}, {"r0150;", "r0000;"}, {"o025;", "o000;"}, {"s01;", "s00;"}, {"b0;", "b0;"}, {"n2;", "n0;"}, {"w05;", "w00;"}
    };
    private static final String STARTS = "prosbnw";
    private static final String KINDS = "pdkqxw";

    private final Check check;

    TellingEdges(Check check) {
        this.check = check;
    }

    void run() {
        newObject();
        letters();
        eachStatement();
        lastDigits();
        manyLetters();
        wrongLetters();
        somethingLacks();
        wrongLetterAheadOfAll();
        numbersOutOfRange();
        nobodySoFar();
        oneTwice();
        oneForgottenOrHere();
        weekAbove();
        noRoom();
        firstWrongStatement();
        allOrNothing();
        lettersAreNoMore();
    }

    private void newObject() {
        check.at("Promise 1", "Nobody, NAMES 1, WEEK 0");
        SoManyForgotten x = new SoManyForgotten();
        check.alike("a new object", Look.at(x), "counts 0 0 0 1 0 0 0 0");
        check.alike("its refusals", Look.atRefusals(x), "refusals 0 0 0 0 0 0");
        check.due("person(0, 0)", x.person(0, 0), -1);
        check.due("goes(0)", x.goes(0), -1);
        check.due("next(2)", x.next(2), 0);
        check.due("clear()", x.clear(), 0);
        check.due("valley()", x.valley(), -1000);
        check.due("on()", x.on(), -3);
    }

    private void letters() {
        check.at("Promise 2", "A letter (0 .. 255) comes: how many there are");
        SoManyForgotten x = new SoManyForgotten();
        check.due("letter(0)", x.letter(0), 1);
        check.due("letter(255)", x.letter(255), 2);
        check.due("letter(-1)", x.letter(-1), -4);
        check.due("letter(256)", x.letter(256), -6);
        check.due("letter(112)", x.letter(112), 3);
        check.due("count(7)", x.count(7), 3);
        check.at("Promise 2", "96, too");
        for (int i = 4; i <= 96; i++) {
            check.due("letter(59)", x.letter(59), i);
        }
        check.due("letter(59) as the 97th", x.letter(59), -6);
        check.due("count(7)", x.count(7), 96);
        check.due("valley()", x.valley(), -1000);
        check.due("letter(59) behind valley()", x.letter(59), 1);
    }

    private void told(SoManyForgotten x, String text, int due) {
        check.due("\"" + text + "\"", Check.tell(x, text), due);
    }

    private void eachStatement() {
        SoManyForgotten x = new SoManyForgotten();
        check.at("Terms", "\"p\" a letter of a KIND, FIGURE (a digit): one of PEOPLE more");
        for (int kind = 0; kind < 6; kind++) {
            told(x, "p" + KINDS.charAt(kind) + (9 - kind) + ";", 1);
            check.due("count(0)", x.count(0), kind + 1);
            check.due("person(" + kind + ", 0)", x.person(kind, 0), kind);
            check.due("person(" + kind + ", 1)", x.person(kind, 1), 9 - kind);
        }
        check.at("Terms", "\"r\" two of them (a digit each), MEMORY (2 digits): of the first of the second");
        told(x, "r0500;r5099;", 2);
        check.due("memory(0, 5)", x.memory(0, 5), 0);
        check.due("memory(5, 0)", x.memory(5, 0), 99);
        check.at("Terms", "\"o\" one of them (a digit), OWES (2 digits)");
        told(x, "o599;o099;o000;", 3);
        check.due("person(5, 3)", x.person(5, 3), 99);
        check.due("person(0, 3)", x.person(0, 3), 0);
        check.at("Terms", "\"s\" two of them (a digit each): the first SPEAKS to the second");
        told(x, "s50;", 1);
        check.due("memory(0, 5)", x.memory(0, 5), 10);
        check.due("memory(5, 0)", x.memory(5, 0), 99);
        check.at("Terms", "\"n\" NAMES (a digit)");
        told(x, "n3;", 1);
        check.due("count(3)", x.count(3), 3);
        told(x, "n0;", 1);
        check.due("count(3)", x.count(3), 0);
        check.at("Terms", "\"w\" WEEKS (2 digits, 1 .. 60): they go by");
        told(x, "w01;", 1);
        check.due("count(1)", x.count(1), 1);
        told(x, "w60;", 1);
        check.due("count(1)", x.count(1), 61);
        check.at("Terms", "\"b\" one of them (a digit): he comes BACK");
        SoManyForgotten y = Check.of("pp0;w10;");
        check.due("count(2)", y.count(2), 0);
        told(y, "b0;", 1);
        check.due("count(2)", y.count(2), 1);
    }

    private void lastDigits() {
        check.at("Terms", "FIGURE (a digit)");
        for (int figure = 0; figure <= 9; figure++) {
            check.due("figure " + figure, Check.of("pw" + figure + ";").person(0, 1), figure);
        }
        check.at("Terms", "MEMORY (2 digits): of the first of the second");
        for (int v = 0; v <= 99; v++) {
            String digits = v / 10 + "" + v % 10;
            SoManyForgotten x = Check.of("pp0;pp0;r01" + digits + ";o1" + digits + ";");
            check.due("memory(0, 1) of " + digits, x.memory(0, 1), v);
            check.due("memory(1, 0) of " + digits, x.memory(1, 0), 50);
            check.due("person(1, 3) of " + digits, x.person(1, 3), v);
        }
        check.at("Terms", "PEOPLE 0 .. as they come (8 at most)");
        SoManyForgotten x = Check.of("pp0;pp0;pp0;pp0;pp0;pp0;pp0;pp9;");
        told(x, "o777;r7612;r6713;s67;", 4);
        check.due("person(7, 3)", x.person(7, 3), 77);
        check.due("memory(7, 6)", x.memory(7, 6), 22);
        check.due("memory(6, 7)", x.memory(6, 7), 23);
    }

    private void manyLetters() {
        check.at("Terms", "A VALLEY is told in letters, one by one (96 at most)");
        SoManyForgotten x = new SoManyForgotten();
        told(x, "n3;".repeat(32), 32);
        check.due("count(3)", x.count(3), 3);
        told(x, "pp0;".repeat(8) + "o033;".repeat(11) + "n2;n1;n0;", 22);
        check.due("count(0)", x.count(0), 8);
        check.due("count(3)", x.count(3), 0);
        told(x, "r0101;".repeat(15) + "r0102;", 16);
        check.due("memory(0, 1)", x.memory(0, 1), 2);
        // The 97th letter is refused, and those that came are told without it.
        told(x, "n1;".repeat(32) + ";", 32);
    }

    private static boolean fits(int c, char place) {
        switch (place) {
            case 'k':
                return KINDS.indexOf(c) >= 0;
            case '0':
                return "0123456789".indexOf(c) >= 0;
            default:
                return c == place;
        }
    }

    private void wrongLetters() {
        check.at("Terms", "kind 1 the place of the first letter with which no VALLEY can go on");
        for (int c = 0; c <= 255; c++) {
            if (STARTS.indexOf(c) < 0) {
                told(new SoManyForgotten(), "" + (char) c, -1000);
                told(new SoManyForgotten(), "n1;" + (char) c + "0;", -1003);
            }
        }
        for (String[] statement : STATEMENTS) {
            for (int place = 1; place < statement[0].length(); place++) {
                for (int c = 0; c <= 255; c++) {
                    letterAt(statement[0], place, c, fits(c, statement[1].charAt(place)));
                }
            }
        }
        check.at("Terms", "STATEMENTS, each with \";\" behind");
        told(new SoManyForgotten(), "pp0pp0;", -1003);
        told(new SoManyForgotten(), "pp0;;", -1004);
        told(new SoManyForgotten(), ";pp0;", -1000);
        told(new SoManyForgotten(), "pp0; pp0;", -1004);
        told(new SoManyForgotten(), "w010;", -1003);
        told(new SoManyForgotten(), "pp00;", -1003);
    }

    private void letterAt(String statement, int place, int c, boolean fits) {
        String text = statement.substring(0, place) + (char) c + statement.substring(place + 1);
        int answer = Check.tell(Check.of("pp0;pp0;"), text);
        int behind = Check.tell(Check.of("pp0;pp0;"), "n1;" + text);
        if (fits) {
            check.due("no fault of kind 1 in " + text, answer > 0 || answer <= -2000 ? 1 : 0, 1);
        } else {
            check.due("letter " + c + " at " + place + " of " + statement, answer, -1000 - place);
            check.due("letter " + c + " at " + place + " of " + statement + " behind n1;", behind, -1003 - place);
        }
    }

    private void somethingLacks() {
        check.at("Terms", "At least one STATEMENT");
        told(new SoManyForgotten(), "", -1000);
        told(Check.of("pp0;"), "", -1000);
        check.at("Terms", "(the end, if something lacks): -1000 less the place");
        for (String[] statement : STATEMENTS) {
            for (int length = 1; length < statement[0].length(); length++) {
                told(Check.of("pp0;pp0;"), statement[0].substring(0, length), -1000 - length);
                told(Check.of("pp0;pp0;"), "pp0;n1;" + statement[0].substring(0, length), -1007 - length);
            }
        }
        told(new SoManyForgotten(), "n1;".repeat(31) + "pp0", -1096);
        told(new SoManyForgotten(), "n1;".repeat(31) + "pp", -1095);
        told(new SoManyForgotten(), "n1;".repeat(31) + "ppp", -1095);
    }

    private void wrongLetterAheadOfAll() {
        check.at("Terms", "else kind 2");
        told(new SoManyForgotten(), "n9;q", -1003);
        told(new SoManyForgotten(), "o000;w99;b5;pp", -1014);
        told(new SoManyForgotten(), "w00", -1003);
        told(new SoManyForgotten(), "r00990", -1005);
        told(new SoManyForgotten(), "w00;", -2000);
    }

    /** A fault of kind 2: the letters are no more, and nothing else has changed or is counted. */
    private void faulty(SoManyForgotten x, SoManyForgotten twin, String text, int due) {
        told(x, text, due);
        check.alike("what there is behind \"" + text + "\"", Look.at(x), Look.at(twin));
        check.alike("refusals behind \"" + text + "\"", Look.atRefusals(x), Look.atRefusals(twin));
        check.alike("what lies hidden behind \"" + text + "\"", Look.behind(x), Look.behind(twin));
    }

    /** 0 and 1 are here and 2 is forgotten, in week 13. */
    private static SoManyForgotten three() {
        SoManyForgotten x = Check.of("pp1;pd2;pp3;o115;r0200;r1200;w10;");
        x.image();
        x.weeks(3);
        x.goes(9);
        return Check.rowOf(x, 37, 36);
    }

    private void faulty(String text, int due) {
        faulty(three(), three(), text, due);
    }

    private void numbersOutOfRange() {
        check.at("Terms", "a number out of range");
        for (int v = 4; v <= 9; v++) {
            faulty("n" + v + ";", -2000);
        }
        faulty("w00;", -2000);
        for (int n = 61; n <= 99; n++) {
            faulty("w" + n + ";", -2000);
        }
        faulty("n3;w60;w61;", -2007);
        told(three(), "n3;", 1);
        told(three(), "w01;", 1);
        told(three(), "w60;", 1);
    }

    private void nobodySoFar() {
        check.at("Terms", "nobody so far with that number");
        for (int nobody = 3; nobody <= 9; nobody++) {
            faulty("r0" + nobody + "10;", -2000);
            faulty("r" + nobody + "010;", -2000);
            faulty("o" + nobody + "10;", -2000);
            faulty("s0" + nobody + ";", -2000);
            faulty("s" + nobody + "0;", -2000);
            faulty("b" + nobody + ";", -2000);
        }
        faulty("o310;pp0;", -2000);
        faulty("pp0;r3410;pp0;", -2004);
        told(three(), "pp0;o310;r3010;r0310;s03;pp0;s34;", 7);
        told(new SoManyForgotten(), "o000;pp0;", -2000);
        told(new SoManyForgotten(), "pp0;o000;", 2);
    }

    private void oneTwice() {
        check.at("Terms", "one twice, SPEAKING where one is FORGOTTEN");
        for (int one = 0; one < 3; one++) {
            faulty("r" + one + one + "10;", -2000);
            faulty("s" + one + one + ";", -2000);
        }
        faulty("n2;s11;", -2003);
    }

    private void oneForgottenOrHere() {
        check.at("Terms", "SPEAKING where one is FORGOTTEN");
        faulty("s02;", -2000);
        faulty("s20;", -2000);
        faulty("s01;s12;", -2004);
        // In week 20 the next goes, and what is told behind it is told of that week.
        faulty("w06;s01;w01;s01;", -2012);
        told(three(), "b2;s02;s20;", 3);
        check.at("Terms", "coming BACK of one HERE");
        faulty("b0;", -2000);
        faulty("b1;", -2000);
        faulty("b2;b2;", -2003);
        faulty("pp0;b3;", -2004);
        told(three(), "b2;w07;", 2);
        check.at("Terms", "\"r\" two of them (a digit each)");
        SoManyForgotten x = three();
        told(x, "r0277;r2088;o233;", 3);
        check.due("memory of one forgotten", x.memory(0, 2), 77);
        check.due("memory of him", x.memory(2, 0), 88);
        check.due("he owes", x.person(2, 3), 33);
    }

    private static SoManyForgotten late(int week) {
        return Check.atWeek(three(), week);
    }

    private void weekAbove() {
        check.at("Terms", "WEEK above 999");
        faulty(late(939), late(939), "w60;w01;", -2004);
        faulty(late(940), late(940), "w60;", -2000);
        faulty(late(998), late(998), "w02;", -2000);
        faulty(late(999), late(999), "w01;", -2000);
        faulty(late(990), late(990), "w05;w04;w01;", -2008);
        SoManyForgotten x = late(939);
        told(x, "w60;", 1);
        check.due("count(1)", x.count(1), 999);
        SoManyForgotten y = late(998);
        told(y, "w01;", 1);
        check.due("count(1)", y.count(1), 999);
        told(y, "n0;", 1);
    }

    private void noRoom() {
        check.at("Terms", "no room for more");
        told(three(), "pp0;pp0;pp0;pp0;pp0;", 5);
        faulty("pp0;pp0;pp0;pp0;pp0;pp0;", -2020);
        told(new SoManyForgotten(), "px0;".repeat(8), 8);
        told(new SoManyForgotten(), "px0;".repeat(9), -2032);
        SoManyForgotten eight = Check.of("px0;".repeat(8));
        told(eight, "pp0;", -2000);
        // Those who are forgotten take their room, too.
        SoManyForgotten gone = Check.of("pp0;".repeat(8) + "n3;w30;");
        check.due("count(2)", gone.count(2), 0);
        told(gone, "pp0;", -2000);
        told(gone, "b0;", 1);
        check.due("count(0)", gone.count(0), 8);
    }

    private void firstWrongStatement() {
        check.at("Terms", "the place of the first letter of the first STATEMENT that is not as it must be");
        faulty("n4;n4;", -2000);
        faulty("n2;r0310;n4;", -2003);
        faulty("r0110;o011;s01;n3;w10;b2;b2;", -2025);
        faulty("w60;".repeat(17), -2064);
        told(new SoManyForgotten(), "n0;".repeat(31) + "n4;", -2093);
    }

    private void allOrNothing() {
        check.at("Terms", "Without FAULT all of it comes, with one nothing");
        String all = "pk4;r0101;o099;s01;n0;b2;w13;";
        faulty(all + "n4;", -2000 - all.length());
        faulty(all + "n", -1000 - all.length() - 1);
        faulty(all + "z", -1000 - all.length());
        SoManyForgotten x = three();
        told(x, all, 7);
        check.due("count(0)", x.count(0), 4);
        check.due("count(1)", x.count(1), 26);
        check.due("count(2)", x.count(2), 15);
        check.due("count(3)", x.count(3), 0);
        check.due("person(0, 3)", x.person(0, 3), 99);
    }

    private void lettersAreNoMore() {
        check.at("Promise 3", "The letters become a VALLEY, and are no more: how many STATEMENTS");
        SoManyForgotten x = new SoManyForgotten();
        told(x, "pp0;pp0;", 2);
        check.due("count(7)", x.count(7), 0);
        told(x, "", -1000);
        check.due("count(0)", x.count(0), 2);
        check.at("Promise 3", "the FAULT (nothing is counted)");
        told(x, "pp0;n4;", -2004);
        check.due("count(7) behind a fault of kind 2", x.count(7), 0);
        told(x, "pp0", -1003);
        check.due("count(7) behind a fault of kind 1", x.count(7), 0);
        told(x, ";", -1000);
        check.due("count(0)", x.count(0), 2);
        check.alike("refusals", Look.atRefusals(x), "refusals 0 0 0 0 0 0");
    }
}
