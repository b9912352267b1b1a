import java.util.function.Supplier;

/**
 * Every refusal of every call: the last number that is taken and the first that is refused on either
 * side, which comes first where two could, that it is counted once, and that all else stays as it was.
 */
final class RefusedEdges {
    interface Call {
        long on(SoManyForgotten x);
    }

    interface CallOfOne {
        long on(SoManyForgotten x, int number);
    }

    interface CallOfTwo {
        long on(SoManyForgotten x, int one, int other);
    }

    private static final int LEAST_INT = Integer.MIN_VALUE;
    private static final int GREATEST_INT = Integer.MAX_VALUE;
    /** Four are there in the state in which calls are refused, 0 .. 3. */
    private static final int[] NOBODY = {-1, 4, 8, LEAST_INT, GREATEST_INT};
    private static final int[][] NOT_TWO = {
        {-1, 0}, {4, 0}, {0, -1}, {0, 4}, {-1, -1}, {4, 4}, {0, 0}, {3, 3}, {LEAST_INT, 0}, {0, GREATEST_INT}
    };

    private final Check check;
    private String promise = "";
    private Supplier<SoManyForgotten> state = RefusedEdges::busy;

    RefusedEdges(Check check) {
        this.check = check;
    }

    void run() {
        letter();
        person();
        memory();
        recalls();
        speaks();
        owes();
        back();
        names();
        turn();
        weeks();
        memoryThen();
        knownThen();
        gone();
        goes();
        next();
        least();
        speak();
        fewest();
        save();
        bring();
        league();
        largest();
        cold();
        envy();
        power();
        voids();
        two();
        feast();
        mean();
        whatIs();
        row();
        lots();
        on();
        neverRefused();
    }

    /**
     * Three who are here and one who is forgotten (3), with a row, letters, an image and a refusal: all
     * that a refused call could spoil.
     */
    private static SoManyForgotten busy() {
        SoManyForgotten x = Check.of("pp1;pd2;px3;pp4;o115;r0300;r1300;r2300;w10;");
        x.image();
        Check.tell(x, "r0312;r3145;o122;w03;");
        Check.rowOf(x, 37, 36);
        Check.letters(x, "n2");
        x.person(0, 9);
        return x;
    }

    private static SoManyForgotten fullOfLetters() {
        SoManyForgotten x = busy();
        Check.letters(x, ";" + "n0;".repeat(31));
        return x;
    }

    private static SoManyForgotten fullRow() {
        return Check.rowOf(busy(), 35, 34, 33, 32, 31, 30, 30, 30, 30, 30, 30, 30, 30, 30);
    }

    private static SoManyForgotten late() {
        return Check.atWeek(busy(), 980);
    }

    private static SoManyForgotten last() {
        return Check.atWeek(busy(), 999);
    }

    private static SoManyForgotten withoutImage() {
        return Check.of("pp1;pd2;o130;w03;");
    }

    private long asAnswered(int number) {
        boolean ofLongs = promise.equals("Promise 31") || promise.equals("Promise 32");
        return ofLongs ? 4000000000000000000L - number : number;
    }

    private void refused(String sentence, int number, String name, Call call) {
        check.at(promise, sentence);
        refusedAsTold(number, name, call);
    }

    private void refusedAsTold(int number, String name, Call call) {
        SoManyForgotten x = state.get();
        SoManyForgotten y = state.get();
        check.due(name, call.on(x), asAnswered(number));
        for (int what = 11; what <= 16; what++) {
            check.due("count(" + what + ") behind " + name, x.count(what), y.count(what) + (what == 10 - number ? 1 : 0));
        }
        check.alike("what there is behind " + name, Look.at(x), Look.at(y));
        check.alike("what lies hidden behind " + name, Look.behind(x), Look.behind(y));
    }

    /** Where two could come, the one that is told first. */
    private void first(int number, String name, Call call) {
        check.at("Terms", "the first that fits in the order in which it tells them");
        refusedAsTold(number, promise + ": " + name, call);
    }

    private void taken(String sentence, String name, CallOfOne call, int... numbers) {
        check.at(promise, sentence);
        for (int number : numbers) {
            SoManyForgotten x = state.get();
            String before = Look.atRefusals(x);
            call.on(x, number);
            check.alike("refusals behind " + name + " of " + number, Look.atRefusals(x), before);
        }
    }

    private void each(String sentence, int refusal, String name, CallOfOne call, int... numbers) {
        for (int number : numbers) {
            refused(sentence, refusal, name + " of " + number, x -> call.on(x, number));
        }
    }

    private void nobody(String sentence, String name, CallOfOne call) {
        each(sentence, -1, name, call, NOBODY);
        taken(sentence, name, call, 0);
    }

    private void notTwo(String sentence, String name, CallOfTwo call) {
        for (int[] pair : NOT_TWO) {
            refused(sentence, -1, name + " of " + pair[0] + " and " + pair[1], x -> call.on(x, pair[0], pair[1]));
        }
        taken(sentence, name + " of 0 and", (x, other) -> call.on(x, 0, other), 1, 2);
        taken(sentence, name + " of 1 and", (x, other) -> call.on(x, 1, other), 0, 2);
    }

    private void what(String sentence, int most, String name, CallOfOne call) {
        each(sentence, -2, name, call, -1, most + 1, LEAST_INT, GREATEST_INT);
        taken(sentence, name, call, 0, most);
    }

    private void range(String below, String above, int least, int most, String name, CallOfOne call) {
        each(below, -4, name, call, least - 1, LEAST_INT);
        taken(below, name, call, least);
        each(above, -6, name, call, most + 1, GREATEST_INT);
        taken(above, name, call, most);
    }

    private void letter() {
        promise = "Promise 2";
        range("-4", "-6 (255; 96, too)", 0, 255, "letter", SoManyForgotten::letter);
        state = RefusedEdges::fullOfLetters;
        each("-6 (255; 96, too)", -6, "the 97th letter", SoManyForgotten::letter, 0, 59, 255, 256);
        first(-4, "letter(-1) as the 97th", x -> x.letter(-1));
        state = RefusedEdges::busy;
    }

    private void person() {
        promise = "Promise 4";
        nobody("-1", "person(.., 0)", (x, one) -> x.person(one, 0));
        what("-2", 5, "person(3, ..)", (x, what) -> x.person(3, what));
        first(-1, "person(4, 6)", x -> x.person(4, 6));
        first(-1, "person(-1, -1)", x -> x.person(-1, -1));
    }

    private void memory() {
        promise = "Promise 5";
        notTwo("-1 either (one twice, too)", "memory", SoManyForgotten::memory);
        taken("-1 either (one twice, too)", "memory of one forgotten of", (x, other) -> x.memory(3, other), 0, 2);
    }

    private void recalls() {
        promise = "Promise 6";
        notTwo("-1 either (one twice, too)", "recalls", (x, one, other) -> x.recalls(one, other, 5));
        range("-4", "-6 99", 0, 99, "recalls(0, 1, ..)", (x, v) -> x.recalls(0, 1, v));
        taken("-6 99", "recalls(3, 0, ..)", (x, v) -> x.recalls(3, 0, v), 0, 99);
        taken("-6 99", "recalls(0, 3, ..)", (x, v) -> x.recalls(0, 3, v), 0, 99);
        first(-1, "recalls(0, 4, -1)", x -> x.recalls(0, 4, -1));
        first(-1, "recalls(4, 0, 100)", x -> x.recalls(4, 0, 100));
        first(-1, "recalls(1, 1, -1)", x -> x.recalls(1, 1, -1));
    }

    private void speaks() {
        promise = "Promise 7";
        notTwo("-1 either (one twice, too)", "speaks", SoManyForgotten::speaks);
        each("-3 either is FORGOTTEN", -3, "speaks(3, ..)", (x, other) -> x.speaks(3, other), 0, 1, 2);
        each("-3 either is FORGOTTEN", -3, "speaks(.., 3)", (x, one) -> x.speaks(one, 3), 0, 1, 2);
        first(-1, "speaks(3, 3)", x -> x.speaks(3, 3));
        first(-1, "speaks(3, 4)", x -> x.speaks(3, 4));
        first(-1, "speaks(4, 3)", x -> x.speaks(4, 3));
    }

    private void owes() {
        promise = "Promise 8";
        nobody("-1", "owes(.., 5)", (x, one) -> x.owes(one, 5));
        range("-4", "-6 99", 0, 99, "owes(0, ..)", (x, v) -> x.owes(0, v));
        taken("-6 99", "owes(3, ..)", (x, v) -> x.owes(3, v), 0, 99);
        first(-1, "owes(4, -1)", x -> x.owes(4, -1));
        first(-1, "owes(-1, 100)", x -> x.owes(-1, 100));
    }

    private void back() {
        promise = "Promise 9";
        each("-1", -1, "back", SoManyForgotten::back, NOBODY);
        each("-3 he is HERE", -3, "back", SoManyForgotten::back, 0, 1, 2);
        taken("-3 he is HERE", "back", SoManyForgotten::back, 3);
    }

    private void names() {
        promise = "Promise 10";
        range("-4", "-6 3", 0, 3, "names", SoManyForgotten::names);
    }

    private void turn() {
        promise = "Promise 11";
        nobody("-1", "turn(.., 0, 0)", (x, one) -> x.turn(one, 0, 0));
        what("-2", 5, "turn(0, .., 0)", (x, kind) -> x.turn(0, kind, 0));
        range("-4", "-6 9", 0, 9, "turn(0, 0, ..)", (x, figure) -> x.turn(0, 0, figure));
        taken("-6 9", "turn(3, 5, ..)", (x, figure) -> x.turn(3, 5, figure), 0, 9);
        first(-1, "turn(4, 6, 0)", x -> x.turn(4, 6, 0));
        first(-1, "turn(4, 0, -1)", x -> x.turn(4, 0, -1));
        first(-1, "turn(4, 0, 10)", x -> x.turn(4, 0, 10));
        first(-2, "turn(0, 6, -1)", x -> x.turn(0, 6, -1));
        first(-2, "turn(0, -1, 10)", x -> x.turn(0, -1, 10));
    }

    private void weeks() {
        promise = "Promise 12";
        String above = "-6 (60; WEEK above 999)";
        range("-4", above, 1, 60, "weeks", SoManyForgotten::weeks);
        state = RefusedEdges::late;
        range("-4", above, 1, 19, "weeks behind 980", SoManyForgotten::weeks);
        each(above, -6, "weeks behind 980", SoManyForgotten::weeks, 60, 61);
        state = RefusedEdges::last;
        each(above, -6, "weeks behind 999", SoManyForgotten::weeks, 1, 2, 60, 61, GREATEST_INT);
        each("-4", -4, "weeks behind 999", SoManyForgotten::weeks, 0, -1, LEAST_INT);
        state = RefusedEdges::busy;
    }

    private void memoryThen() {
        promise = "Promise 13";
        notTwo("-1 either (one twice, too)", "memoryThen", (x, one, other) -> x.memoryThen(one, other, 9));
        range("-4", "-6 99", 0, 99, "memoryThen(0, 1, ..)", (x, n) -> x.memoryThen(0, 1, n));
        first(-1, "memoryThen(0, 4, -1)", x -> x.memoryThen(0, 4, -1));
        first(-1, "memoryThen(4, 0, 100)", x -> x.memoryThen(4, 0, 100));
        first(-1, "memoryThen(1, 1, 100)", x -> x.memoryThen(1, 1, 100));
    }

    private void knownThen() {
        promise = "Promise 14";
        nobody("-1", "knownThen(.., 9)", (x, one) -> x.knownThen(one, 9));
        range("-4", "-6 99", 0, 99, "knownThen(0, ..)", (x, n) -> x.knownThen(0, n));
        taken("-6 99", "knownThen(3, ..)", (x, n) -> x.knownThen(3, n), 0, 99);
        first(-1, "knownThen(4, -1)", x -> x.knownThen(4, -1));
        first(-1, "knownThen(4, 100)", x -> x.knownThen(4, 100));
    }

    private void gone() {
        promise = "Promise 15";
        range("-4", "-6 99", 0, 99, "gone", SoManyForgotten::gone);
    }

    private void goes() {
        promise = "Promise 16";
        nobody("-1", "goes", SoManyForgotten::goes);
        taken("-1", "goes", SoManyForgotten::goes, 2, 3);
    }

    private void next() {
        promise = "Promise 17";
        what("-2", 3, "next", SoManyForgotten::next);
    }

    private void least() {
        promise = "Promise 18";
        what("-2", 1, "least", SoManyForgotten::least);
    }

    private void speak() {
        promise = "Promise 19";
        nobody("-1", "speak", SoManyForgotten::speak);
        each("-3 he is FORGOTTEN", -3, "speak", SoManyForgotten::speak, 3);
    }

    private void fewest() {
        promise = "Promise 20";
        nobody("-1", "fewest(.., 9)", (x, one) -> x.fewest(one, 9));
        range("-4", "-6 60", 0, 60, "fewest(0, ..)", (x, n) -> x.fewest(0, n));
        each("-3 he is FORGOTTEN", -3, "fewest(3, ..)", (x, n) -> x.fewest(3, n), 0, 60);
        first(-1, "fewest(4, -1)", x -> x.fewest(4, -1));
        first(-1, "fewest(4, 61)", x -> x.fewest(4, 61));
        first(-4, "fewest(3, -1)", x -> x.fewest(3, -1));
        first(-6, "fewest(3, 61)", x -> x.fewest(3, 61));
    }

    private void save() {
        promise = "Promise 21";
        range("-4", "-6 60", 0, 60, "save", SoManyForgotten::save);
    }

    private void bring() {
        promise = "Promise 22";
        what("-2", 1, "bring", SoManyForgotten::bring);
    }

    private void league() {
        promise = "Promise 23";
        nobody("-1", "league", SoManyForgotten::league);
        each("-3 he is FORGOTTEN", -3, "league", SoManyForgotten::league, 3);
    }

    private void largest() {
        promise = "Promise 24";
        what("-2", 1, "largest", SoManyForgotten::largest);
    }

    private void cold() {
        promise = "Promise 25";
        what("-2", 1, "cold", SoManyForgotten::cold);
    }

    private void envy() {
        promise = "Promise 26";
        nobody("-1", "envy", SoManyForgotten::envy);
        each("-3 he is FORGOTTEN", -3, "envy", SoManyForgotten::envy, 3);
    }

    private void power() {
        promise = "Promise 27";
        nobody("-1", "power(.., 9)", (x, one) -> x.power(one, 9));
        range("-4 below 1", "-6 60", 1, 60, "power(0, ..)", (x, n) -> x.power(0, n));
        each("-3 he is FORGOTTEN", -3, "power(3, ..)", (x, n) -> x.power(3, n), 1, 60);
        first(-1, "power(4, 0)", x -> x.power(4, 0));
        first(-1, "power(4, 61)", x -> x.power(4, 61));
        first(-4, "power(3, 0)", x -> x.power(3, 0));
        first(-6, "power(3, 61)", x -> x.power(3, 61));
    }

    private void voids() {
        promise = "Promise 28";
        range("-4 below 1", "-6 99", 1, 99, "voids", SoManyForgotten::voids);
    }

    private void two() {
        promise = "Promise 30";
        notTwo("-1 either (one twice, too)", "two", (x, one, other) -> x.two(one, other, 9));
        range("-4", "-6 30", 0, 30, "two(0, 1, ..)", (x, n) -> x.two(0, 1, n));
        each("-3 either is FORGOTTEN", -3, "two(3, .., 9)", (x, other) -> x.two(3, other, 9), 0, 1, 2);
        each("-3 either is FORGOTTEN", -3, "two(.., 3, 9)", (x, one) -> x.two(one, 3, 9), 0, 1, 2);
        first(-1, "two(3, 3, 9)", x -> x.two(3, 3, 9));
        first(-1, "two(3, 4, 9)", x -> x.two(3, 4, 9));
        first(-1, "two(0, 0, -1)", x -> x.two(0, 0, -1));
        first(-1, "two(4, 0, 31)", x -> x.two(4, 0, 31));
        first(-4, "two(3, 0, -1)", x -> x.two(3, 0, -1));
        first(-4, "two(0, 3, -1)", x -> x.two(0, 3, -1));
        first(-6, "two(3, 0, 31)", x -> x.two(3, 0, 31));
        first(-6, "two(0, 3, 31)", x -> x.two(0, 3, 31));
    }

    private void feast() {
        promise = "Promise 31";
        nobody("Refused as told: -1", "feast(.., 3, 4, 0)", (x, one) -> x.feast(one, 3, 4, 0));
        range("-4 (n; t below 2)", "-6 (7; 20)", 0, 7, "feast(0, .., 4, 1)", (x, n) -> x.feast(0, n, 4, 1));
        range("-4 (n; t below 2)", "-6 (7; 20)", 2, 20, "feast(0, 3, .., 1)", (x, t) -> x.feast(0, 3, t, 1));
        what("-2", 1, "feast(0, 3, 4, ..)", (x, part) -> x.feast(0, 3, 4, part));
        taken("Refused as told: -1", "feast(3, .., 4, 0)", (x, n) -> x.feast(3, n, 4, 0), 0, 7);
        first(-1, "feast(4, -1, 4, 0)", x -> x.feast(4, -1, 4, 0));
        first(-1, "feast(4, 8, 4, 0)", x -> x.feast(4, 8, 4, 0));
        first(-1, "feast(4, 3, 1, 0)", x -> x.feast(4, 3, 1, 0));
        first(-1, "feast(4, 3, 21, 0)", x -> x.feast(4, 3, 21, 0));
        first(-1, "feast(4, 3, 4, 2)", x -> x.feast(4, 3, 4, 2));
        first(-4, "feast(0, -1, 21, 0)", x -> x.feast(0, -1, 21, 0));
        first(-4, "feast(0, 8, 1, 0)", x -> x.feast(0, 8, 1, 0));
        first(-4, "feast(0, -1, 4, 2)", x -> x.feast(0, -1, 4, 2));
        first(-4, "feast(0, 3, 1, 2)", x -> x.feast(0, 3, 1, 2));
        first(-6, "feast(0, 8, 4, 2)", x -> x.feast(0, 8, 4, 2));
        first(-6, "feast(0, 3, 21, 2)", x -> x.feast(0, 3, 21, 2));
        check.at("Terms", "Of longs they are 4000000000000000000 less them (-1 as 4000000000000000001)");
        check.due("feast(4, 3, 4, 0)", busy().feast(4, 3, 4, 0), 4000000000000000001L);
        check.due("feast(0, 3, 4, 2)", busy().feast(0, 3, 4, 2), 4000000000000000002L);
        check.due("feast(0, 3, 1, 0)", busy().feast(0, 3, 1, 0), 4000000000000000004L);
        check.due("feast(0, 8, 4, 0)", busy().feast(0, 8, 4, 0), 4000000000000000006L);
        check.due("mean(2)", busy().mean(2), 4000000000000000002L);
    }

    private void mean() {
        promise = "Promise 32";
        what("Refused as told: -2", 1, "mean", SoManyForgotten::mean);
    }

    private void whatIs() {
        promise = "Promise 33";
        notTwo("-1 either (one twice, too)", "whatIs", (x, one, other) -> x.whatIs(one, other, 0));
        what("-2", 1, "whatIs(0, 1, ..)", (x, what) -> x.whatIs(0, 1, what));
        taken("-1 either (one twice, too)", "whatIs(3, 0, ..)", (x, what) -> x.whatIs(3, 0, what), 0, 1);
        taken("-1 either (one twice, too)", "whatIs(0, 3, ..)", (x, what) -> x.whatIs(0, 3, what), 0, 1);
        first(-1, "whatIs(0, 4, 2)", x -> x.whatIs(0, 4, 2));
        first(-1, "whatIs(4, 0, -1)", x -> x.whatIs(4, 0, -1));
        first(-1, "whatIs(1, 1, 2)", x -> x.whatIs(1, 1, 2));
    }

    private void row() {
        promise = "Promise 34";
        range("-4", "-6 (99; 16, too)", 0, 99, "row", SoManyForgotten::row);
        state = RefusedEdges::fullRow;
        each("-6 (99; 16, too)", -6, "the 17th number", SoManyForgotten::row, 0, 50, 99, 100);
        first(-4, "row(-1) as the 17th", x -> x.row(-1));
        state = RefusedEdges::busy;
    }

    private void lots() {
        promise = "Promise 37";
        range("-4", "-6 20", 1, 20, "lots(.., 5, 0)", (x, n) -> x.lots(n, 5, 0));
        what("-2", 1, "lots(3, 5, ..)", (x, what) -> x.lots(3, 5, what));
        taken("-6 20", "lots(2, .., 0)", (x, z) -> x.lots(2, z, 0), LEAST_INT, -1, 0, GREATEST_INT);
        first(-4, "lots(0, 5, 2)", x -> x.lots(0, 5, 2));
        first(-6, "lots(21, 5, -1)", x -> x.lots(21, 5, -1));
    }

    private void on() {
        promise = "Promise 39";
        state = RefusedEdges::withoutImage;
        refused("-3 there is none", -3, "on()", SoManyForgotten::on);
        state = RefusedEdges::busy;
        taken("-3 there is none", "on() whatever", (x, nothing) -> x.on(), 0);
    }

    /** The calls of the document without a refusal, full and empty. */
    private void neverRefused() {
        promise = "Promise 3";
        taken("the FAULT (nothing is counted)", "valley() whatever", (x, nothing) -> x.valley(), 0);
        promise = "Promise 40";
        taken("-9 for another what", "count", SoManyForgotten::count, LEAST_INT, -1, 8, 9, 10, 17, GREATEST_INT);
        promise = "Terms";
        taken("REFUSALS (the call answers the number", "calls that are never refused",
            (x, nothing) -> x.hill() + x.judge() + x.clear() + x.image(), 0);
        refusalsByNumber();
    }

    private void refusalsByNumber() {
        SoManyForgotten x = Check.of("pp0;");
        check.at("Terms", "-1 NOBODY: no such one, one twice");
        check.due("goes(1)", x.goes(1), -1);
        check.due("memory(0, 0)", x.memory(0, 0), -1);
        check.due("count(11)", x.count(11), 2);
        check.at("Terms", "-2 OTHER: what, KIND");
        check.due("next(4)", x.next(4), -2);
        check.due("turn(0, 6, 0)", x.turn(0, 6, 0), -2);
        check.due("count(12)", x.count(12), 2);
        check.at("Terms", "-3 STATE: it is not as it must be");
        check.due("back(0)", x.back(0), -3);
        check.due("on()", x.on(), -3);
        check.due("count(13)", x.count(13), 2);
        check.at("Terms", "-4 BELOW: a number below the least");
        check.due("names(-1)", x.names(-1), -4);
        check.due("voids(0)", x.voids(0), -4);
        check.due("count(14)", x.count(14), 2);
        check.at("Terms", "-6 ROOM: a number above the greatest, no room");
        check.due("names(4)", x.names(4), -6);
        Check.rowOf(x, 1, 2, 3, 4, 5, 6, 7, 8, 9, 10, 11, 12, 13, 14, 15, 16);
        check.due("row(17) as the 17th", x.row(17), -6);
        check.due("count(16)", x.count(16), 2);
        check.at("Promise 40", "11 .. 16 REFUSALS -1 .. -6");
        check.due("count(15), as none is -5", x.count(15), 0);
    }
}
