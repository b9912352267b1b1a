/** A valley whose people remember one another, and where so many must be forgotten each spring. */
public final class SoManyForgotten {

    private static final int MOST_PEOPLE = 8;
    private static final int MOST_LETTERS = 96;
    private static final int MOST_IN_ROW = 16;
    private static final int MOST_MEMORY = 99;
    private static final int MOST_OWED = 99;
    private static final int MOST_NAMES = 3;
    private static final int MOST_FIGURE = 9;
    private static final int MOST_AT_ONCE = 60;
    private static final int LAST_WEEK = 999;

    private static final int MEMORY_AT_FIRST = 50;
    private static final int MEMORY_BACK = 20;
    private static final int MEMORY_BY_SPEAKING = 10;
    private static final int MEMORY_BY_FEAST = 2;
    private static final int MEMORY_IN_LEAGUE = 50;
    private static final int WEEKS_TO_SPRING = 10;
    private static final int PRICE_OF_SPEAKING = 30;
    private static final int MOST_TIMES_SPEAKING = 3;
    private static final int WEEKS_BY_LOT = 20;

    private static final int WITHOUT_SIGN = 0x7fffffff;

    private static final int FARTHEST = 99;
    // One week past the farthest thought, so that "never" compares as the latest of all.
    private static final int NEVER = FARTHEST + 1;

    private static final String KIND_LETTERS = "pdkqxw";
    private static final int KINDS = 6;
    private static final int DOG = 4;

    private static final int FINE = 0;
    private static final int NOBODY = -1;
    private static final int OTHER = -2;
    private static final int STATE = -3;
    private static final int BELOW = -4;
    private static final int ROOM = -6;
    private static final int NONE = -9;
    private static final long LONG_REFUSAL = 4000000000000000000L;

    private final Valley now;
    private final Valley kept;
    private final Valley told;
    private final Mind mind;
    private final Telling telling;
    private final Row numbers;
    private final int[] refusals;
    private boolean imageTaken;

    public SoManyForgotten() {
        Person[] kinds = {
            new Person(), new Debtor(), new Kindly(), new Quarreller(), new Dog(), new Wife()
        };
        now = new Valley(kinds);
        kept = new Valley(kinds);
        told = new Valley(kinds);
        mind = new Mind(now, kinds);
        telling = new Telling();
        numbers = new Row();
        refusals = new int[1 - ROOM];
        imageTaken = false;
    }

    public int letter(int c) {
        int refusal = refused(outside(c, 0, 255), telling.isFull() ? ROOM : FINE);
        return refusal != FINE ? refusal : telling.add(c);
    }

    public int valley() {
        told.copy(now);
        int answer = telling.tell(told);
        telling.forgetLetters();
        if (answer > 0) {
            now.copy(told);
        }
        return answer;
    }

    public int person(int person, int what) {
        int refusal = refused(nobody(person), wrongWhat(what, 5));
        if (refusal != FINE) {
            return refusal;
        }
        switch (what) {
            case 0:
                return now.kind[person];
            case 1:
                return now.figure[person];
            case 2:
                return now.here[person] ? 1 : 0;
            case 3:
                return now.owed[person];
            case 4:
                return now.knownOf(person);
            default:
                return now.mayBeNamed(person) ? 1 : 0;
        }
    }

    public int memory(int one, int other) {
        int refusal = refused(notTwo(one, other));
        return refusal != FINE ? refusal : now.memoryOf(one, other);
    }

    public int recalls(int one, int other, int v) {
        int refusal = refused(notTwo(one, other), outside(v, 0, MOST_MEMORY));
        if (refusal != FINE) {
            return refusal;
        }
        int before = now.memoryOf(one, other);
        now.setMemory(one, other, v);
        return before;
    }

    public int speaks(int one, int other) {
        int refusal = refused(notTwo(one, other), forgotten(one), forgotten(other));
        if (refusal != FINE) {
            return refusal;
        }
        now.talk(one, other);
        return now.memoryOf(one, other) + now.memoryOf(other, one);
    }

    public int owes(int person, int v) {
        int refusal = refused(nobody(person), outside(v, 0, MOST_OWED));
        if (refusal != FINE) {
            return refusal;
        }
        int before = now.owed[person];
        now.owed[person] = v;
        return before;
    }

    public int back(int person) {
        int refusal = refused(nobody(person), now.isHere(person) ? STATE : FINE);
        if (refusal != FINE) {
            return refusal;
        }
        now.comeBack(person);
        return now.countHere();
    }

    public int names(int v) {
        int refusal = refused(outside(v, 0, MOST_NAMES));
        if (refusal != FINE) {
            return refusal;
        }
        int before = now.namesEachSpring;
        now.namesEachSpring = v;
        return before;
    }

    public int turn(int person, int kind, int figure) {
        int refusal = refused(nobody(person), wrongWhat(kind, KINDS - 1), outside(figure, 0, MOST_FIGURE));
        if (refusal != FINE) {
            return refusal;
        }
        int before = 10 * now.kind[person] + now.figure[person];
        now.kind[person] = kind;
        now.figure[person] = figure;
        return before;
    }

    public int weeks(int n) {
        int refusal = refused(outside(n, 1, Math.min(MOST_AT_ONCE, LAST_WEEK - now.week)));
        if (refusal != FINE) {
            return refusal;
        }
        now.passWeeks(n);
        return now.countHere();
    }

    public int memoryThen(int one, int other, int n) {
        int refusal = refused(notTwo(one, other), outside(n, 0, FARTHEST));
        return refusal != FINE ? refusal : mind.after(n).memoryOf(one, other);
    }

    public int knownThen(int person, int n) {
        int refusal = refused(nobody(person), outside(n, 0, FARTHEST));
        return refusal != FINE ? refusal : mind.after(n).knownOf(person);
    }

    public int gone(int n) {
        int refusal = refused(outside(n, 0, FARTHEST));
        return refusal != FINE ? refusal : mind.after(n).forgottenBits();
    }

    public int goes(int person) {
        int refusal = refused(nobody(person));
        return refusal != FINE ? refusal : noneIfNever(mind.untilForgotten(person));
    }

    public int next(int what) {
        int refusal = refused(wrongWhat(what, 3));
        if (refusal != FINE) {
            return refusal;
        }
        switch (what) {
            case 0:
                return mind.firstForgotten();
            case 1:
                return noneIfNever(mind.untilFirstForgotten());
            case 2:
                return noneIfNever(mind.untilEmpty());
            default:
                return WEEKS_TO_SPRING - now.week % WEEKS_TO_SPRING;
        }
    }

    public int least(int what) {
        int refusal = refused(wrongWhat(what, 1));
        if (refusal != FINE) {
            return refusal;
        }
        return what == 0 ? now.leastKnown() : now.bestKnown();
    }

    public int speak(int person) {
        int refusal = refused(nobody(person), forgotten(person));
        return refusal != FINE ? refusal : mind.bestToSpeakTo(person);
    }

    public int fewest(int person, int n) {
        int refusal = refused(nobody(person), outside(n, 0, MOST_AT_ONCE), forgotten(person));
        return refusal != FINE ? refusal : mind.fewestTimes(person, n);
    }

    public int save(int n) {
        int refusal = refused(outside(n, 0, MOST_AT_ONCE));
        return refusal != FINE ? refusal : mind.bestAsDog(n);
    }

    public int bring(int what) {
        int refusal = refused(wrongWhat(what, 1));
        if (refusal != FINE) {
            return refusal;
        }
        int who = mind.bestToBring();
        return what == 0 || who == NONE ? who : mind.weeksIfBack(who);
    }

    public int league(int person) {
        int refusal = refused(nobody(person), forgotten(person));
        return refusal != FINE ? refusal : now.leagueOf(person);
    }

    public int largest(int what) {
        int refusal = refused(wrongWhat(what, 1));
        if (refusal != FINE) {
            return refusal;
        }
        int members = mind.largestLeague();
        return what == 0 ? members : Integer.bitCount(members);
    }

    public int cold(int what) {
        int refusal = refused(wrongWhat(what, 1));
        if (refusal != FINE) {
            return refusal;
        }
        return what == 0 ? now.countCold() : now.firstCold();
    }

    public int envy(int person) {
        int refusal = refused(nobody(person), forgotten(person));
        return refusal != FINE ? refusal : now.leastRemembered(person);
    }

    public int power(int person, int n) {
        int refusal = refused(nobody(person), outside(n, 1, MOST_AT_ONCE), forgotten(person));
        return refusal != FINE ? refusal : mind.powerOf(person, n);
    }

    public int voids(int n) {
        int refusal = refused(outside(n, 1, FARTHEST));
        return refusal != FINE ? refusal : mind.debtsVoid(n);
    }

    public int hill() {
        return now.memoryOverTheHill();
    }

    public int two(int a, int b, int n) {
        int refusal = refused(notTwo(a, b), outside(n, 0, 30), forgotten(a), forgotten(b));
        return refusal != FINE ? refusal : mind.settled(a, b, n);
    }

    public long feast(int person, int n, int t, int part) {
        int below = n < 0 || t < 2 ? BELOW : FINE;
        int above = n > 7 || t > 20 ? ROOM : FINE;
        int refusal = refused(nobody(person), below, above, wrongWhat(part, 1));
        if (refusal != FINE) {
            return LONG_REFUSAL - refusal;
        }
        return partOf(mind.waysHere(person, n, t), raised(t, n), part);
    }

    public long mean(int part) {
        int refusal = refused(wrongWhat(part, 1));
        if (refusal != FINE) {
            return LONG_REFUSAL - refusal;
        }
        return partOf(now.knownTogether(), Math.max(1, now.countHere()), part);
    }

    public int whatIs(int person, int other, int what) {
        int refusal = refused(notTwo(person, other), wrongWhat(what, 1));
        if (refusal != FINE) {
            return refusal;
        }
        return what == 0
            ? mind.kindsThatFit(person, other, numbers)
            : mind.figuresThatFit(person, other, numbers);
    }

    public int row(int v) {
        int refusal = refused(outside(v, 0, 99), numbers.isFull() ? ROOM : FINE);
        return refusal != FINE ? refusal : numbers.add(v);
    }

    public int judge() {
        int answer = mind.firstNotSo(numbers);
        numbers.empty();
        return answer;
    }

    public int clear() {
        return numbers.empty();
    }

    public int lots(int n, int z, int what) {
        int refusal = refused(outside(n, 1, 20), wrongWhat(what, 1));
        return refusal != FINE ? refusal : mind.byLot(n, z, what == 1);
    }

    public int image() {
        kept.copy(now);
        imageTaken = true;
        return now.week;
    }

    public int on() {
        int refusal = refused(imageTaken ? FINE : STATE);
        if (refusal != FINE) {
            return refusal;
        }
        now.copy(kept);
        return now.week;
    }

    public int count(int what) {
        if (what >= 11 && what <= 16) {
            return refusals[what - 10];
        }
        switch (what) {
            case 0:
                return now.people;
            case 1:
                return now.week;
            case 2:
                return now.hereBits();
            case 3:
                return now.namesEachSpring;
            case 4:
                return now.knownTogether();
            case 5:
                return now.owedTogether();
            case 6:
                return numbers.size;
            case 7:
                return telling.size;
            default:
                return NONE;
        }
    }

    // The refusals: each looks at one argument, and refused() counts the first that fits.

    private int nobody(int person) {
        return now.has(person) ? FINE : NOBODY;
    }

    private int notTwo(int one, int other) {
        return now.areTwo(one, other) ? FINE : NOBODY;
    }

    // One who is nobody is refused as that, so he does not count as forgotten too.
    private int forgotten(int person) {
        return now.has(person) && !now.here[person] ? STATE : FINE;
    }

    private static int wrongWhat(int what, int last) {
        return what < 0 || what > last ? OTHER : FINE;
    }

    private static int outside(int number, int low, int high) {
        if (number < low) {
            return BELOW;
        }
        return number > high ? ROOM : FINE;
    }

    private int refused(int only) {
        return counted(only);
    }

    private int refused(int first, int second) {
        return counted(firstThatFits(first, second));
    }

    private int refused(int first, int second, int third) {
        return counted(firstThatFits(firstThatFits(first, second), third));
    }

    private int refused(int first, int second, int third, int fourth) {
        return counted(firstThatFits(firstThatFits(first, second), firstThatFits(third, fourth)));
    }

    private int counted(int refusal) {
        if (refusal <= NOBODY && refusal >= ROOM) {
            refusals[-refusal]++;
        }
        return refusal;
    }

    private static int firstThatFits(int first, int second) {
        return first != FINE ? first : second;
    }

    private static int noneIfNever(int weeks) {
        return weeks == NEVER ? NONE : weeks;
    }

    private static long partOf(long above, long below, int part) {
        long divisor = greatestDivisor(above, below);
        if (divisor < 1) {
            return part;
        }
        return (part == 0 ? above : below) / divisor;
    }

    private static long greatestDivisor(long a, long b) {
        long larger = a;
        long smaller = b;
        // Euclid on numbers below 2^31 takes fewer than 50 steps.
        for (int step = 0; step < 100 && smaller != 0; step++) {
            long rest = larger % smaller;
            larger = smaller;
            smaller = rest;
        }
        return larger;
    }

    private static long raised(int base, int power) {
        long product = 1;
        for (int i = 0; i < power; i++) {
            product *= base;
        }
        return product;
    }

    /** What a kind of people tells of one; the kinds under it tell only where they differ. */
    static class Person {

        int change(int week, int owed, int figure) {
            return -1;
        }

        boolean isNamed(int figure) {
            return true;
        }
    }

    static class Debtor extends Person {

        int change(int week, int owed, int figure) {
            return -(owed / 10);
        }
    }

    static class Kindly extends Person {

        int change(int week, int owed, int figure) {
            int ofTen = week % 10;
            boolean kindWeek = ofTen == 8 || ofTen == 9 || ofTen == 0;
            return super.change(week, owed, figure) + (kindWeek ? 3 : 0);
        }
    }

    static final class Quarreller extends Debtor {

        int change(int week, int owed, int figure) {
            return super.change(week, owed, figure) + figure;
        }
    }

    static final class Dog extends Person {

        int change(int week, int owed, int figure) {
            return 0;
        }

        boolean isNamed(int figure) {
            return false;
        }
    }

    static final class Wife extends Kindly {

        int change(int week, int owed, int figure) {
            return super.change(week, owed, figure) + (week % 2 == 1 ? 2 : 0);
        }

        boolean isNamed(int figure) {
            return figure < 5;
        }
    }

    /** All that there is of a valley at one time; copied, never made anew, to think ahead in. */
    static final class Valley {

        final Person[] kinds;
        final int[] kind = new int[MOST_PEOPLE];
        final int[] figure = new int[MOST_PEOPLE];
        final int[] owed = new int[MOST_PEOPLE];
        final boolean[] here = new boolean[MOST_PEOPLE];
        final int[] memories = new int[MOST_PEOPLE * MOST_PEOPLE];
        int people = 0;
        int namesEachSpring = 1;
        int week = 0;

        Valley(Person[] kinds) {
            this.kinds = kinds;
        }

        void copy(Valley from) {
            System.arraycopy(from.kind, 0, kind, 0, MOST_PEOPLE);
            System.arraycopy(from.figure, 0, figure, 0, MOST_PEOPLE);
            System.arraycopy(from.owed, 0, owed, 0, MOST_PEOPLE);
            for (int person = 0; person < MOST_PEOPLE; person++) {
                here[person] = from.here[person];
            }
            System.arraycopy(from.memories, 0, memories, 0, MOST_PEOPLE * MOST_PEOPLE);
            people = from.people;
            namesEachSpring = from.namesEachSpring;
            week = from.week;
        }

        boolean has(int person) {
            return person >= 0 && person < people;
        }

        boolean areTwo(int one, int other) {
            return has(one) && has(other) && one != other;
        }

        boolean isHere(int person) {
            return has(person) && here[person];
        }

        boolean areTwoHere(int one, int other) {
            return one != other && isHere(one) && isHere(other);
        }

        boolean mayBeNamed(int person) {
            return kinds[kind[person]].isNamed(figure[person]);
        }

        int memoryOf(int one, int other) {
            return memories[one * MOST_PEOPLE + other];
        }

        void setMemory(int one, int other, int v) {
            memories[one * MOST_PEOPLE + other] = v;
        }

        private void addMemory(int one, int other, int more) {
            int at = one * MOST_PEOPLE + other;
            int v = memories[at] + more;
            memories[at] = v < 0 ? 0 : Math.min(v, MOST_MEMORY);
        }

        void comes(int itsKind, int itsFigure) {
            int comer = people;
            kind[comer] = itsKind;
            figure[comer] = itsFigure;
            owed[comer] = 0;
            here[comer] = true;
            for (int other = 0; other < comer; other++) {
                setMemory(comer, other, MEMORY_AT_FIRST);
                setMemory(other, comer, MEMORY_AT_FIRST);
            }
            people++;
        }

        void talk(int one, int other) {
            addMemory(one, other, MEMORY_BY_SPEAKING);
            addMemory(other, one, MEMORY_BY_SPEAKING);
        }

        void talkToAll(int one) {
            for (int other = 0; other < people; other++) {
                if (areTwoHere(one, other)) {
                    talk(one, other);
                }
            }
        }

        void comeBack(int person) {
            here[person] = true;
            rememberAs(person, MEMORY_BACK);
        }

        private void forget(int person) {
            here[person] = false;
            owed[person] = 0;
            rememberAs(person, 0);
        }

        // Memory of him of all others here.
        private void rememberAs(int person, int v) {
            for (int one = 0; one < people; one++) {
                if (one != person && here[one]) {
                    memories[one * MOST_PEOPLE + person] = v;
                }
            }
        }

        private void rememberMore(int person, int more) {
            for (int one = 0; one < people; one++) {
                if (one != person && here[one]) {
                    addMemory(one, person, more);
                }
            }
        }

        void holdFeast() {
            for (int person = 0; person < people; person++) {
                if (here[person]) {
                    rememberMore(person, MEMORY_BY_FEAST);
                }
            }
        }

        void forgetOthers(int one) {
            for (int other = 0; other < people; other++) {
                setMemory(one, other, 0);
            }
        }

        void passWeeks(int n) {
            for (int i = 0; i < n; i++) {
                passWeek();
            }
        }

        void passWeek() {
            week++;
            for (int person = 0; person < people; person++) {
                int more = here[person] ? kinds[kind[person]].change(week, owed[person], figure[person]) : 0;
                if (more != 0) {
                    rememberMore(person, more);
                }
            }
            if (week % WEEKS_TO_SPRING == 0) {
                passSpring();
            }
        }

        private void passSpring() {
            for (int i = 0; i < namesEachSpring; i++) {
                int named = leastKnown();
                if (named != NONE) {
                    forget(named);
                }
            }
        }

        int knownOf(int person) {
            int known = 0;
            for (int one = 0; one < people; one++) {
                if (one != person && here[one]) {
                    known += memories[one * MOST_PEOPLE + person];
                }
            }
            return known;
        }

        int leastKnown() {
            int who = NONE;
            int least = 0;
            for (int person = 0; person < people; person++) {
                if (here[person] && kinds[kind[person]].isNamed(figure[person])) {
                    int known = knownOf(person);
                    if (who == NONE || known < least) {
                        who = person;
                        least = known;
                    }
                }
            }
            return who;
        }

        int bestKnown() {
            int who = NONE;
            int most = -1;
            for (int person = 0; person < people; person++) {
                if (here[person] && knownOf(person) > most) {
                    who = person;
                    most = knownOf(person);
                }
            }
            return who;
        }

        int hereBits() {
            int bits = 0;
            for (int person = 0; person < people; person++) {
                bits |= here[person] ? 1 << person : 0;
            }
            return bits;
        }

        int forgottenBits() {
            return ((1 << people) - 1) & ~hereBits();
        }

        int countHere() {
            return Integer.bitCount(hereBits());
        }

        int knownTogether() {
            int known = 0;
            for (int person = 0; person < people; person++) {
                known += here[person] ? knownOf(person) : 0;
            }
            return known;
        }

        int owedTogether() {
            int all = 0;
            for (int person = 0; person < people; person++) {
                all += owed[person];
            }
            return all;
        }

        int leagueOf(int one) {
            int bits = 0;
            for (int other = 0; other < people; other++) {
                if (areTwoHere(one, other)
                    && memoryOf(one, other) >= MEMORY_IN_LEAGUE
                    && memoryOf(other, one) >= MEMORY_IN_LEAGUE) {
                    bits |= 1 << other;
                }
            }
            return bits;
        }

        private boolean areCold(int one, int other) {
            return areTwoHere(one, other) && memoryOf(one, other) == 0 && memoryOf(other, one) == 0;
        }

        int countCold() {
            int colds = 0;
            for (int one = 0; one < people; one++) {
                for (int other = one + 1; other < people; other++) {
                    colds += areCold(one, other) ? 1 : 0;
                }
            }
            return colds;
        }

        int firstCold() {
            for (int one = 0; one < people; one++) {
                for (int other = one + 1; other < people; other++) {
                    if (areCold(one, other)) {
                        return 10 * one + other;
                    }
                }
            }
            return NONE;
        }

        int leastRemembered(int one) {
            int who = NONE;
            for (int other = 0; other < people; other++) {
                if (areTwoHere(one, other) && (who == NONE || memoryOf(one, other) < memoryOf(one, who))) {
                    who = other;
                }
            }
            return who;
        }

        int memoryOverTheHill() {
            int all = 0;
            for (int one = 0; one < people; one++) {
                for (int other = 0; other < people; other++) {
                    all += one != other && !here[one] && !here[other] ? memoryOf(one, other) : 0;
                }
            }
            return all;
        }

        /** Goes on until the one is forgotten: behind how many weeks that is, or NEVER. */
        int passUntilForgotten(int person) {
            for (int weeks = 0; weeks <= FARTHEST; weeks++) {
                if (!here[person]) {
                    return weeks;
                }
                passWeek();
            }
            return NEVER;
        }

        /** Goes on for n weeks, or until the one is forgotten: whether he still is here. */
        boolean keeps(int person, int n) {
            for (int i = 0; i < n && here[person]; i++) {
                passWeek();
            }
            return here[person];
        }
    }

    /** The letters told so far, and what they say. */
    static final class Telling {

        private final int[] letters = new int[MOST_LETTERS];
        int size = 0;

        boolean isFull() {
            return size >= MOST_LETTERS;
        }

        int add(int c) {
            letters[size] = c;
            size++;
            return size;
        }

        void forgetLetters() {
            size = 0;
        }

        /** Brings the statements into the valley, which is of no use behind a fault: how many, or the fault. */
        int tell(Valley valley) {
            int wrong = firstWrongLetter();
            if (wrong != NONE) {
                return -1000 - wrong;
            }
            int statements = 0;
            for (int place = 0; place < size; place++) {
                if (isStart(place)) {
                    if (!carryOut(valley, place)) {
                        return -2000 - place;
                    }
                    statements++;
                }
            }
            return statements;
        }

        private boolean isStart(int place) {
            return place == 0 || letters[place - 1] == ';';
        }

        private int firstWrongLetter() {
            String shape = "";
            int at = 0;
            for (int place = 0; place < size; place++) {
                if (at >= shape.length()) {
                    shape = shapeOf(letters[place]);
                    at = 0;
                }
                if (shape.isEmpty() || !fits(letters[place], shape.charAt(at))) {
                    return place;
                }
                at++;
            }
            return size > 0 && at == shape.length() ? NONE : size;
        }

        // In a shape "k" stands for a letter of a kind and "0" for a digit.
        private static String shapeOf(int c) {
            switch (c) {
                case 'p':
                    return "pk0;";
                case 'r':
                    return "r0000;";
                case 'o':
                    return "o000;";
                case 's':
                    return "s00;";
                case 'b':
                    return "b0;";
                case 'n':
                    return "n0;";
                case 'w':
                    return "w00;";
                default:
                    return "";
            }
        }

        private static boolean fits(int c, char sign) {
            switch (sign) {
                case 'k':
                    return KIND_LETTERS.indexOf((char) c) >= 0;
                case '0':
                    return c >= '0' && c <= '9';
                default:
                    return c == sign;
            }
        }

        private int digit(int place) {
            return place < size ? letters[place] - '0' : 0;
        }

        private int number(int place) {
            return 10 * digit(place) + digit(place + 1);
        }

        private boolean carryOut(Valley valley, int place) {
            switch (letters[place]) {
                case 'p':
                    return carryOutPerson(valley, place);
                case 'r':
                    return carryOutRecalls(valley, digit(place + 1), digit(place + 2), number(place + 3));
                case 'o':
                    return carryOutOwes(valley, digit(place + 1), number(place + 2));
                case 's':
                    return carryOutSpeaks(valley, digit(place + 1), digit(place + 2));
                case 'b':
                    return carryOutBack(valley, digit(place + 1));
                case 'n':
                    return carryOutNames(valley, digit(place + 1));
                default:
                    return carryOutWeeks(valley, number(place + 1));
            }
        }

        private boolean carryOutPerson(Valley valley, int place) {
            int kind = place + 1 < size ? KIND_LETTERS.indexOf((char) letters[place + 1]) : NONE;
            if (kind < 0 || valley.people >= MOST_PEOPLE) {
                return false;
            }
            valley.comes(kind, digit(place + 2));
            return true;
        }

        private static boolean carryOutRecalls(Valley valley, int one, int other, int v) {
            if (!valley.areTwo(one, other)) {
                return false;
            }
            valley.setMemory(one, other, v);
            return true;
        }

        private static boolean carryOutOwes(Valley valley, int person, int v) {
            if (!valley.has(person)) {
                return false;
            }
            valley.owed[person] = v;
            return true;
        }

        private static boolean carryOutSpeaks(Valley valley, int one, int other) {
            if (!valley.areTwoHere(one, other)) {
                return false;
            }
            valley.talk(one, other);
            return true;
        }

        private static boolean carryOutBack(Valley valley, int person) {
            if (!valley.has(person) || valley.here[person]) {
                return false;
            }
            valley.comeBack(person);
            return true;
        }

        private static boolean carryOutNames(Valley valley, int v) {
            if (v > MOST_NAMES) {
                return false;
            }
            valley.namesEachSpring = v;
            return true;
        }

        private static boolean carryOutWeeks(Valley valley, int n) {
            if (n < 1 || n > MOST_AT_ONCE || valley.week + n > LAST_WEEK) {
                return false;
            }
            for (int i = 0; i < n; i++) {
                valley.passWeek();
            }
            return true;
        }
    }

    /** The numbers told week by week, to be compared with what comes. */
    static final class Row {

        final int[] numbers = new int[MOST_IN_ROW];
        int size = 0;

        boolean isFull() {
            return size >= MOST_IN_ROW;
        }

        int add(int v) {
            numbers[size] = v;
            size++;
            return size;
        }

        int empty() {
            int had = size;
            size = 0;
            return had;
        }
    }

    /** What is asked in mind: it looks at the valley as it is now, and lets only copies of it go on. */
    static final class Mind {

        private final Valley now;
        private final Valley then;
        private final Valley otherwise;
        private final int[] leagues = new int[MOST_PEOPLE];
        private final int[] firstGains = new int[4];
        private final int[] otherGains = new int[4];
        private int z = 0;

        Mind(Valley now, Person[] kinds) {
            this.now = now;
            then = new Valley(kinds);
            otherwise = new Valley(kinds);
        }

        private void startAgain() {
            then.copy(now);
        }

        Valley after(int n) {
            startAgain();
            then.passWeeks(n);
            return then;
        }

        int untilForgotten(int person) {
            startAgain();
            return then.passUntilForgotten(person);
        }

        int untilFirstForgotten() {
            startAgain();
            int hereNow = now.hereBits();
            for (int weeks = 1; weeks <= FARTHEST; weeks++) {
                then.passWeek();
                if (then.hereBits() != hereNow) {
                    return weeks;
                }
            }
            return NEVER;
        }

        int firstForgotten() {
            untilFirstForgotten();
            for (int person = 0; person < now.people; person++) {
                if (now.here[person] && !then.here[person]) {
                    return person;
                }
            }
            return NONE;
        }

        int untilEmpty() {
            startAgain();
            for (int weeks = 0; weeks <= FARTHEST; weeks++) {
                if (then.hereBits() == 0) {
                    return weeks;
                }
                then.passWeek();
            }
            return NEVER;
        }

        int bestToSpeakTo(int person) {
            int whom = NONE;
            int latest = untilForgotten(person);
            for (int other = 0; other < now.people; other++) {
                if (now.areTwoHere(person, other)) {
                    startAgain();
                    then.talk(person, other);
                    int weeks = then.passUntilForgotten(person);
                    if (weeks > latest) {
                        whom = other;
                        latest = weeks;
                    }
                }
            }
            return whom;
        }

        int fewestTimes(int person, int n) {
            for (int times = 0; times <= MOST_TIMES_SPEAKING; times++) {
                for (int listeners = 0; listeners < 1 << (3 * times); listeners++) {
                    if (areListeners(person, times, listeners) && isKeptBy(person, n, times, listeners)) {
                        return times;
                    }
                }
            }
            return NONE;
        }

        // Listeners stand in one number, three bits each; their order does not matter to
        // memory, so only the rising one is looked at.
        private boolean areListeners(int person, int times, int listeners) {
            int before = 0;
            for (int i = 0; i < times; i++) {
                int listener = listenerAt(listeners, i);
                if (listener < before || !now.areTwoHere(person, listener)) {
                    return false;
                }
                before = listener;
            }
            return true;
        }

        private static int listenerAt(int listeners, int i) {
            return (listeners >> (3 * i)) & 7;
        }

        private boolean isKeptBy(int person, int n, int times, int listeners) {
            startAgain();
            for (int i = 0; i < times; i++) {
                then.talk(person, listenerAt(listeners, i));
            }
            return then.keeps(person, n);
        }

        int bestAsDog(int n) {
            int who = NONE;
            int most = after(n).countHere();
            for (int person = 0; person < now.people; person++) {
                if (now.here[person]) {
                    startAgain();
                    then.kind[person] = DOG;
                    then.passWeeks(n);
                    if (then.countHere() > most) {
                        who = person;
                        most = then.countHere();
                    }
                }
            }
            return who;
        }

        int bestToBring() {
            int who = NONE;
            int longest = 0;
            for (int person = 0; person < now.people; person++) {
                if (!now.here[person]) {
                    int weeks = weeksIfBack(person);
                    if (who == NONE || weeks > longest) {
                        who = person;
                        longest = weeks;
                    }
                }
            }
            return who;
        }

        int weeksIfBack(int person) {
            startAgain();
            then.comeBack(person);
            return Math.min(FARTHEST, then.passUntilForgotten(person));
        }

        int largestLeague() {
            for (int person = 0; person < now.people; person++) {
                leagues[person] = now.leagueOf(person);
            }
            int largest = 0;
            for (int members = 1; members < 1 << now.people; members++) {
                if (Integer.bitCount(members) > Integer.bitCount(largest) && isLeague(members)) {
                    largest = members;
                }
            }
            return largest;
        }

        private boolean isLeague(int members) {
            for (int person = 0; person < now.people; person++) {
                int himself = 1 << person;
                boolean member = (members & himself) != 0;
                if (member && (!now.here[person] || (members & ~(leagues[person] | himself)) != 0)) {
                    return false;
                }
            }
            return true;
        }

        int powerOf(int person, int n) {
            startAgain();
            otherwise.copy(now);
            otherwise.forgetOthers(person);
            int changed = 0;
            for (int i = 0; i < n; i++) {
                then.passWeek();
                otherwise.passWeek();
                changed += then.leastKnown() != otherwise.leastKnown() ? 1 : 0;
            }
            return changed;
        }

        int debtsVoid(int n) {
            int goers = now.hereBits() & ~after(n).hereBits();
            int all = 0;
            for (int person = 0; person < now.people; person++) {
                all += ((goers >> person) & 1) == 1 ? now.owed[person] : 0;
            }
            return all;
        }

        /** The first pair of doings that neither leaves alone, 10 the first's and the other's. */
        int settled(int first, int other, int n) {
            for (int pair = 0; pair < 4; pair++) {
                weighPair(first, other, n, pair);
            }
            for (int pair = 0; pair < 4; pair++) {
                if (firstGains[pair] >= firstGains[pair ^ 2] && otherGains[pair] >= otherGains[pair ^ 1]) {
                    return 10 * (pair >> 1) + (pair & 1);
                }
            }
            return NONE;
        }

        // Of a pair the higher bit is the first's doing and the lower the other's.
        private void weighPair(int first, int other, int n, int pair) {
            int firstSpeaks = pair >> 1;
            int otherSpeaks = pair & 1;
            startAgain();
            if (firstSpeaks == 1) {
                then.talkToAll(first);
            }
            if (otherSpeaks == 1) {
                then.talkToAll(other);
            }
            then.passWeeks(n);
            firstGains[pair] = then.knownOf(first) - PRICE_OF_SPEAKING * firstSpeaks;
            otherGains[pair] = then.knownOf(other) - PRICE_OF_SPEAKING * otherSpeaks;
        }

        /** Of the t to the n ways that feasts can fall, those that leave him here. */
        long waysHere(int person, int n, int t) {
            long ways = 0;
            for (int feasts = 0; feasts < 1 << n; feasts++) {
                if (isHereBehind(person, n, feasts)) {
                    ways += raised(t - 1, n - Integer.bitCount(feasts));
                }
            }
            return ways;
        }

        private boolean isHereBehind(int person, int n, int feasts) {
            startAgain();
            for (int i = 0; i < n; i++) {
                if (((feasts >> i) & 1) == 1) {
                    then.holdFeast();
                }
                then.passWeek();
            }
            return then.here[person];
        }

        int kindsThatFit(int person, int other, Row row) {
            int bits = 0;
            for (int kind = 0; kind < KINDS; kind++) {
                startAgain();
                then.kind[person] = kind;
                bits |= isMemoryAsTold(person, other, row) ? 1 << kind : 0;
            }
            return bits;
        }

        int figuresThatFit(int person, int other, Row row) {
            int bits = 0;
            for (int figure = 0; figure <= MOST_FIGURE; figure++) {
                startAgain();
                then.figure[person] = figure;
                bits |= isMemoryAsTold(person, other, row) ? 1 << figure : 0;
            }
            return bits;
        }

        private boolean isMemoryAsTold(int person, int other, Row row) {
            for (int i = 0; i < row.size; i++) {
                if (then.memoryOf(other, person) != row.numbers[i]) {
                    return false;
                }
                then.passWeek();
            }
            return true;
        }

        int firstNotSo(Row row) {
            startAgain();
            for (int i = 0; i < row.size; i++) {
                if (then.countHere() != row.numbers[i]) {
                    return i;
                }
                then.passWeek();
            }
            return NONE;
        }

        int byLot(int valleys, int seed, boolean known) {
            z = seed;
            int all = 0;
            for (int i = 0; i < valleys; i++) {
                startAgain();
                drawMemories();
                then.passWeeks(WEEKS_BY_LOT);
                all += known ? then.knownTogether() : then.countHere();
            }
            return all;
        }

        private void drawMemories() {
            for (int one = 0; one < then.people; one++) {
                for (int other = 0; other < then.people; other++) {
                    if (one != other) {
                        then.setMemory(one, other, drawBelowHundred());
                    }
                }
            }
        }

        private int drawBelowHundred() {
            z = z * 1664525 + 1013904223;
            return (z & WITHOUT_SIGN) / 256 % 100;
        }
    }
}
