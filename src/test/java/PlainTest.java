import java.util.Random;

/** Long runs by lot, with a fixed seed: each answer is compared with that of the plain reading. */
final class PlainTest {
    private static final int RUNS = Integer.getInteger("runs", 150);
    private static final int STEPS = 150;
    private static final String KINDS = "pdkqxw";

    private static final Check check = new Check();
    private static Random random;
    private static SoManyForgotten x;
    private static Plain plain;
    private static int calls;

    public static void main(String[] args) {
        for (int run = 0; run < RUNS; run++) {
            check.promise("run " + run);
            random = new Random(7919L * run + 1);
            x = new SoManyForgotten();
            plain = new Plain();
            calls = 0;
            tell(people());
            // A document's object has 512 calls; what later ones answer is free.
            for (int step = 0; step < STEPS && calls < 400; step++) {
                if (random.nextInt(12) == 0) {
                    tell(statements());
                } else if (random.nextInt(3) == 0) {
                    change();
                } else {
                    ask();
                }
            }
            for (int what = -1; what < 18; what++) {
                check.due("count(" + what + ")", x.count(what), plain.count(what));
            }
        }
        check.finish();
    }

    private static void due(String call, long got, long want) {
        calls++;
        check.due(call, got, want);
    }

    private static int some(int least, int most) {
        return least + random.nextInt(most - least + 1);
    }

    /** One who is there mostly, and sometimes not. */
    private static int one() {
        return random.nextInt(25) == 0 ? some(-1, 9) : random.nextInt(Math.max(1, plain.now.size()));
    }

    private static int another(int one) {
        int size = plain.now.size();
        return random.nextInt(25) == 0 || size < 2 ? one() : (one + some(1, size - 1)) % size;
    }

    /** A number of the range mostly, and sometimes one beside it or an edge of it. */
    private static int number(int least, int most) {
        return switch (random.nextInt(16)) {
            case 0 -> least - 1;
            case 1 -> most + 1;
            case 2 -> least;
            case 3 -> most;
            default -> some(least, most);
        };
    }

    private static int what(int most) {
        return random.nextInt(25) == 0 ? (random.nextBoolean() ? -1 : most + 1) : some(0, most);
    }

    private static String two(int v) {
        return (v < 10 ? "0" : "") + v;
    }

    private static String people() {
        StringBuilder text = new StringBuilder();
        int n = some(0, 8);
        for (int i = 0; i < n; i++) {
            text.append('p').append(KINDS.charAt(random.nextInt(6))).append(random.nextInt(10)).append(';');
        }
        return text.toString();
    }

    private static String statements() {
        StringBuilder text = new StringBuilder();
        int n = some(0, 5);
        for (int i = 0; i < n; i++) {
            int a = Math.floorMod(one(), 10);
            int b = Math.floorMod(another(a), 10);
            text.append(switch (random.nextInt(7)) {
                case 0 -> "p" + KINDS.charAt(random.nextInt(6)) + random.nextInt(10);
                case 1 -> "r" + a + b + two(random.nextInt(100));
                case 2 -> "o" + a + two(random.nextInt(100));
                case 3 -> "s" + a + b;
                case 4 -> "b" + a;
                case 5 -> "n" + random.nextInt(5);
                default -> "w" + two(random.nextInt(6) == 0 ? random.nextInt(100) : some(1, 12));
            }).append(';');
        }
        if (random.nextInt(6) == 0 && text.length() > 0) {
            int at = random.nextInt(text.length());
            switch (random.nextInt(3)) {
                case 0 -> text.setLength(at);
                case 1 -> text.setCharAt(at, "prosbnw;0129xkdq/:".charAt(random.nextInt(18)));
                default -> text.insert(at, "prosbnw;0129xkdq/:".charAt(random.nextInt(18)));
            }
        }
        return text.toString();
    }

    private static void tell(String text) {
        for (int i = 0; i < text.length(); i++) {
            due("letter of " + text, x.letter(text.charAt(i)), plain.letter(text.charAt(i)));
        }
        if (random.nextInt(20) != 0) {
            due("valley() of " + text, x.valley(), plain.valley());
        }
    }

    private static void change() {
        int a = one();
        int b = another(a);
        switch (random.nextInt(11)) {
            case 0, 1 -> {
                int v = random.nextInt(3) == 0 ? (random.nextBoolean() ? 0 : 99) : number(0, 99);
                due("recalls", x.recalls(a, b, v), plain.recalls(a, b, v));
            }
            case 2 -> due("speaks", x.speaks(a, b), plain.speaks(a, b));
            case 3 -> {
                int v = number(0, 99);
                due("owes", x.owes(a, v), plain.owes(a, v));
            }
            case 4, 5 -> due("back", x.back(a), plain.back(a));
            case 6 -> {
                int v = number(0, 3);
                due("names", x.names(v), plain.names(v));
            }
            case 7 -> {
                int kind = what(5);
                int figure = number(0, 9);
                due("turn", x.turn(a, kind, figure), plain.turn(a, kind, figure));
            }
            case 8 -> {
                int n = random.nextInt(20) == 0 ? number(1, 60) : number(1, 12);
                due("weeks", x.weeks(n), plain.weeks(n));
            }
            case 9 -> {
                if (random.nextInt(2) == 0) {
                    due("image", x.image(), plain.image());
                } else {
                    due("on", x.on(), plain.on());
                }
            }
            default -> fillRow(a, b);
        }
    }

    /** A row that is true of one kind or figure, or of how many are here, with a flaw sometimes. */
    private static void fillRow(int a, int b) {
        if (random.nextInt(3) == 0) {
            due("clear", x.clear(), plain.clear());
        }
        boolean two = a >= 0 && b >= 0 && a < plain.now.size() && b < plain.now.size() && a != b;
        boolean memory = two && random.nextBoolean();
        Plain.Told told = plain.now.copy();
        if (memory && random.nextBoolean()) {
            told.ones.get(a)[0] = random.nextInt(6);
        }
        int n = some(0, 17);
        int flaw = random.nextInt(3) == 0 ? random.nextInt(18) : -1;
        for (int i = 0; i < n; i++) {
            int v = (memory ? told.memory[b][a] : told.hereCount()) + (i == flaw ? some(-1, 1) : 0);
            due("row", x.row(v), plain.row(v));
            told.goOn();
        }
        if (memory) {
            due("whatIs kinds", x.whatIs(a, b, 0), plain.whatIs(a, b, 0));
            due("whatIs figures", x.whatIs(a, b, 1), plain.whatIs(a, b, 1));
        } else {
            due("judge", x.judge(), plain.judge());
        }
    }

    private static void ask() {
        int a = one();
        int b = another(a);
        switch (random.nextInt(27)) {
            case 0 -> {
                int w = what(5);
                due("person", x.person(a, w), plain.person(a, w));
            }
            case 1 -> due("memory", x.memory(a, b), plain.memory(a, b));
            case 2 -> {
                int n = number(0, 99);
                due("memoryThen", x.memoryThen(a, b, n), plain.memoryThen(a, b, n));
            }
            case 3 -> {
                int n = number(0, 99);
                due("knownThen", x.knownThen(a, n), plain.knownThen(a, n));
            }
            case 4 -> {
                int n = number(0, 99);
                due("gone", x.gone(n), plain.gone(n));
            }
            case 5 -> due("goes", x.goes(a), plain.goes(a));
            case 6 -> {
                int w = what(3);
                due("next(" + w + ")", x.next(w), plain.next(w));
            }
            case 7 -> {
                int w = what(1);
                due("least(" + w + ")", x.least(w), plain.least(w));
            }
            case 8 -> due("speak", x.speak(a), plain.speak(a));
            case 9 -> {
                int n = number(0, 60);
                due("fewest", x.fewest(a, n), plain.fewest(a, n));
            }
            case 10 -> {
                int n = number(0, 60);
                due("save", x.save(n), plain.save(n));
            }
            case 11 -> {
                int w = what(1);
                due("bring(" + w + ")", x.bring(w), plain.bring(w));
            }
            case 12 -> due("league", x.league(a), plain.league(a));
            case 13 -> {
                int w = what(1);
                due("largest(" + w + ")", x.largest(w), plain.largest(w));
            }
            case 14 -> {
                int w = what(1);
                due("cold(" + w + ")", x.cold(w), plain.cold(w));
            }
            case 15 -> due("envy", x.envy(a), plain.envy(a));
            case 16 -> {
                int n = number(1, 60);
                due("power", x.power(a, n), plain.power(a, n));
            }
            case 17 -> {
                int n = number(1, 99);
                due("voids", x.voids(n), plain.voids(n));
            }
            case 18 -> due("hill", x.hill(), plain.hill());
            case 19, 20 -> {
                int n = number(0, 30);
                due("two", x.two(a, b, n), plain.two(a, b, n));
            }
            case 21, 22 -> feast(a);
            case 23 -> {
                int w = what(1);
                due("mean(" + w + ")", x.mean(w), plain.mean(w));
            }
            case 24 -> {
                int w = what(1);
                due("whatIs", x.whatIs(a, b, w), plain.whatIs(a, b, w));
            }
            case 25 -> {
                int v = number(0, 99);
                due("row", x.row(v), plain.row(v));
            }
            default -> {
                int n = number(1, 20);
                int z = random.nextInt();
                int w = what(1);
                due("lots", x.lots(n, z, w), plain.lots(n, z, w));
            }
        }
    }

    private static void feast(int a) {
        int n = number(0, 7);
        int t = number(2, 20);
        int part = what(1);
        due("feast", x.feast(a, n, t, part), plain.feast(a, n, t, part));
        due("feast, the other part", x.feast(a, n, t, 1 - part), plain.feast(a, n, t, 1 - part));
    }
}
