import java.math.BigInteger;
import java.util.ArrayList;
import java.util.List;
import java.util.function.IntPredicate;
import java.util.regex.Matcher;
import java.util.regex.Pattern;

/**
 * The document once more, written for plainness alone: each thought makes a new valley and
 * starts from its first week. The class is compared with it call by call.
 */
final class Plain {
    private static final Pattern VALLEY =
        Pattern.compile("(?:p[pdkqxw]\\d;|r\\d\\d\\d\\d;|o\\d\\d\\d;|s\\d\\d;|b\\d;|n\\d;|w\\d\\d;)+");
    private static final String KINDS = "pdkqxw";

    /** All of one valley. */
    static final class Told {
        final List<int[]> ones = new ArrayList<>();
        final int[][] memory = new int[8][8];
        int names = 1;
        int week = 0;

        Told copy() {
            Told t = new Told();
            for (int[] one : ones) {
                t.ones.add(one.clone());
            }
            for (int i = 0; i < 8; i++) {
                t.memory[i] = memory[i].clone();
            }
            t.names = names;
            t.week = week;
            return t;
        }

        int size() {
            return ones.size();
        }

        int kind(int p) {
            return ones.get(p)[0];
        }

        int figure(int p) {
            return ones.get(p)[1];
        }

        boolean here(int p) {
            return p >= 0 && p < size() && ones.get(p)[2] == 1;
        }

        int owes(int p) {
            return ones.get(p)[3];
        }

        List<Integer> those(IntPredicate which) {
            List<Integer> list = new ArrayList<>();
            for (int p = 0; p < size(); p++) {
                if (which.test(p)) {
                    list.add(p);
                }
            }
            return list;
        }

        List<Integer> othersHere(int p) {
            return those(o -> o != p && here(o));
        }

        int known(int p) {
            return othersHere(p).stream().mapToInt(o -> memory[o][p]).sum();
        }

        boolean named(int p) {
            return kind(p) != 4 && (kind(p) != 5 || figure(p) < 5);
        }

        int change(int p) {
            int kindly = "890".indexOf((char) ('0' + week % 10)) >= 0 ? 2 : -1;
            return switch (KINDS.charAt(kind(p))) {
                case 'p' -> -1;
                case 'd' -> -(owes(p) / 10);
                case 'k' -> kindly;
                case 'q' -> figure(p) - owes(p) / 10;
                case 'x' -> 0;
                default -> week % 2 == 1 ? kindly + 2 : kindly;
            };
        }

        void add(int one, int other, int more) {
            int sum = memory[one][other] + more;
            memory[one][other] = sum < 0 ? 0 : sum > 99 ? 99 : sum;
        }

        void goOn() {
            week++;
            for (int p : those(this::here)) {
                for (int o : othersHere(p)) {
                    add(o, p, change(p));
                }
            }
            if (week % 10 == 0) {
                for (int i = 0; i < names; i++) {
                    int p = least();
                    if (p >= 0) {
                        ones.get(p)[2] = 0;
                        ones.get(p)[3] = 0;
                        for (int o : othersHere(p)) {
                            memory[o][p] = 0;
                        }
                    }
                }
            }
        }

        int least() {
            return those(p -> here(p) && named(p)).stream()
                .min((a, b) -> known(a) != known(b) ? known(a) - known(b) : a - b).orElse(-9);
        }

        int best() {
            return those(this::here).stream()
                .min((a, b) -> known(a) != known(b) ? known(b) - known(a) : a - b).orElse(-9);
        }

        void comes(int kind, int figure) {
            int p = size();
            ones.add(new int[] {kind, figure, 1, 0});
            for (int o = 0; o < p; o++) {
                memory[o][p] = 50;
                memory[p][o] = 50;
            }
        }

        void speak(int a, int b) {
            add(a, b, 10);
            add(b, a, 10);
        }

        void back(int p) {
            ones.get(p)[2] = 1;
            for (int o : othersHere(p)) {
                memory[o][p] = 20;
            }
        }

        Told after(int n) {
            Told t = copy();
            for (int i = 0; i < n; i++) {
                t.goOn();
            }
            return t;
        }

        int hereCount() {
            return those(this::here).size();
        }

        int bits(List<Integer> list) {
            return list.stream().mapToInt(p -> 1 << p).sum();
        }

        /** The first number of weeks 0 .. 99 behind which it is so; 1000 never. */
        int firstWeek(java.util.function.Predicate<Told> so) {
            Told t = copy();
            for (int n = 0; n <= 99; n++) {
                if (so.test(t)) {
                    return n;
                }
                t.goOn();
            }
            return 1000;
        }

        int goes(int p) {
            return firstWeek(t -> !t.here(p));
        }
    }

    Told now = new Told();
    private Told image = null;
    private final StringBuilder letters = new StringBuilder();
    private final List<Integer> row = new ArrayList<>();
    private final int[] refusals = new int[7];

    /** Answers the first of the refusals that fits, 0 if none does. */
    private int no(int... refusal) {
        for (int r : refusal) {
            if (r != 0) {
                refusals[-r]++;
                return r;
            }
        }
        return 0;
    }

    private int who(int p) {
        return p < 0 || p >= now.size() ? -1 : 0;
    }

    private int whoTwo(int a, int b) {
        return who(a) != 0 || who(b) != 0 || a == b ? -1 : 0;
    }

    private static int what(int w, int most) {
        return w < 0 || w > most ? -2 : 0;
    }

    private static int low(int v, int least) {
        return v < least ? -4 : 0;
    }

    private static int high(int v, int most) {
        return v > most ? -6 : 0;
    }

    private int away(int p) {
        return who(p) == 0 && !now.here(p) ? -3 : 0;
    }

    private static int never(int n) {
        return n == 1000 ? -9 : n;
    }

    int letter(int c) {
        int r = no(low(c, 0), high(c, 255), letters.length() == 96 ? -6 : 0);
        if (r == 0) {
            letters.append((char) c);
        }
        return r != 0 ? r : letters.length();
    }

    int valley() {
        String text = letters.toString();
        letters.setLength(0);
        for (int n = 1; n <= text.length(); n++) {
            Matcher m = VALLEY.matcher(text.substring(0, n));
            if (!m.matches() && !m.hitEnd()) {
                return -1000 - (n - 1);
            }
        }
        if (!VALLEY.matcher(text).matches()) {
            return -1000 - text.length();
        }
        Told t = now.copy();
        int place = 0;
        int statements = 0;
        for (String s : text.split(";")) {
            if (!statement(t, s)) {
                return -2000 - place;
            }
            place += s.length() + 1;
            statements++;
        }
        now = t;
        return statements;
    }

    private static boolean statement(Told t, String s) {
        int a = s.charAt(1) - '0';
        int b = s.length() > 2 ? s.charAt(2) - '0' : 0;
        boolean isA = a >= 0 && a < t.size();
        boolean two = isA && b < t.size() && a != b;
        switch (s.charAt(0)) {
            case 'p':
                if (t.size() == 8) {
                    return false;
                }
                t.comes(KINDS.indexOf(s.charAt(1)), b);
                return true;
            case 'r':
                if (two) {
                    t.memory[a][b] = Integer.parseInt(s.substring(3));
                }
                return two;
            case 'o':
                if (isA) {
                    t.ones.get(a)[3] = Integer.parseInt(s.substring(2));
                }
                return isA;
            case 's':
                if (two && t.here(a) && t.here(b)) {
                    t.speak(a, b);
                    return true;
                }
                return false;
            case 'b':
                if (isA && !t.here(a)) {
                    t.back(a);
                    return true;
                }
                return false;
            case 'n':
                t.names = a;
                return a <= 3;
            default:
                int n = Integer.parseInt(s.substring(1));
                if (n < 1 || n > 60 || t.week + n > 999) {
                    return false;
                }
                for (int i = 0; i < n; i++) {
                    t.goOn();
                }
                return true;
        }
    }

    int person(int p, int w) {
        int r = no(who(p), what(w, 5));
        if (r != 0) {
            return r;
        }
        return w < 4 ? now.ones.get(p)[w] : w == 4 ? now.known(p) : now.named(p) ? 1 : 0;
    }

    int memory(int a, int b) {
        int r = no(whoTwo(a, b));
        return r != 0 ? r : now.memory[a][b];
    }

    int recalls(int a, int b, int v) {
        int r = no(whoTwo(a, b), low(v, 0), high(v, 99));
        if (r != 0) {
            return r;
        }
        int was = now.memory[a][b];
        now.memory[a][b] = v;
        return was;
    }

    int speaks(int a, int b) {
        int r = no(whoTwo(a, b), away(a), away(b));
        if (r != 0) {
            return r;
        }
        now.speak(a, b);
        return now.memory[a][b] + now.memory[b][a];
    }

    int owes(int p, int v) {
        int r = no(who(p), low(v, 0), high(v, 99));
        if (r != 0) {
            return r;
        }
        int was = now.owes(p);
        now.ones.get(p)[3] = v;
        return was;
    }

    int back(int p) {
        int r = no(who(p), now.here(p) ? -3 : 0);
        if (r != 0) {
            return r;
        }
        now.back(p);
        return now.hereCount();
    }

    int names(int v) {
        int r = no(low(v, 0), high(v, 3));
        if (r != 0) {
            return r;
        }
        int was = now.names;
        now.names = v;
        return was;
    }

    int turn(int p, int kind, int figure) {
        int r = no(who(p), what(kind, 5), low(figure, 0), high(figure, 9));
        if (r != 0) {
            return r;
        }
        int was = 10 * now.kind(p) + now.figure(p);
        now.ones.get(p)[0] = kind;
        now.ones.get(p)[1] = figure;
        return was;
    }

    int weeks(int n) {
        int r = no(low(n, 1), high(n, 60), n > 999 - now.week ? -6 : 0);
        if (r != 0) {
            return r;
        }
        now = now.after(n);
        return now.hereCount();
    }

    int memoryThen(int a, int b, int n) {
        int r = no(whoTwo(a, b), low(n, 0), high(n, 99));
        return r != 0 ? r : now.after(n).memory[a][b];
    }

    int knownThen(int p, int n) {
        int r = no(who(p), low(n, 0), high(n, 99));
        return r != 0 ? r : now.after(n).known(p);
    }

    int gone(int n) {
        int r = no(low(n, 0), high(n, 99));
        if (r != 0) {
            return r;
        }
        Told t = now.after(n);
        return t.bits(t.those(p -> !t.here(p)));
    }

    int goes(int p) {
        int r = no(who(p));
        return r != 0 ? r : never(now.goes(p));
    }

    int next(int w) {
        int r = no(what(w, 3));
        if (r != 0) {
            return r;
        }
        if (w == 2) {
            return never(now.firstWeek(t -> t.hereCount() == 0));
        }
        if (w == 3) {
            int n = 1;
            while ((now.week + n) % 10 != 0) {
                n++;
            }
            return n;
        }
        int who = -9;
        int when = 1000;
        for (int p : now.those(now::here)) {
            int n = now.goes(p);
            if (n < when) {
                who = p;
                when = n;
            }
        }
        return w == 0 ? who : never(when);
    }

    int least(int w) {
        int r = no(what(w, 1));
        return r != 0 ? r : w == 0 ? now.least() : now.best();
    }

    int speak(int p) {
        int r = no(who(p), away(p));
        if (r != 0) {
            return r;
        }
        int to = -9;
        int latest = now.goes(p);
        for (int o : now.othersHere(p)) {
            Told t = now.copy();
            t.speak(p, o);
            if (t.goes(p) > latest) {
                to = o;
                latest = t.goes(p);
            }
        }
        return to;
    }

    int fewest(int p, int n) {
        int r = no(who(p), low(n, 0), high(n, 60), away(p));
        if (r != 0) {
            return r;
        }
        for (int times = 0; times <= 3; times++) {
            if (keeps(now, p, n, times)) {
                return times;
            }
        }
        return -9;
    }

    private static boolean keeps(Told t, int p, int n, int times) {
        if (times == 0) {
            return t.after(n).here(p);
        }
        for (int o : t.othersHere(p)) {
            Told spoken = t.copy();
            spoken.speak(p, o);
            if (keeps(spoken, p, n, times - 1)) {
                return true;
            }
        }
        return false;
    }

    int save(int n) {
        int r = no(low(n, 0), high(n, 60));
        if (r != 0) {
            return r;
        }
        int who = -9;
        int most = now.after(n).hereCount();
        for (int p : now.those(now::here)) {
            Told t = now.copy();
            t.ones.get(p)[0] = 4;
            int count = t.after(n).hereCount();
            if (count > most) {
                who = p;
                most = count;
            }
        }
        return who;
    }

    int bring(int w) {
        int r = no(what(w, 1));
        if (r != 0) {
            return r;
        }
        int who = -9;
        int longest = -9;
        for (int p : now.those(q -> !now.here(q))) {
            Told t = now.copy();
            t.back(p);
            int n = t.goes(p) == 1000 ? 99 : t.goes(p);
            if (n > longest) {
                who = p;
                longest = n;
            }
        }
        return w == 0 ? who : longest;
    }

    private boolean inLeague(int a, int b) {
        return a != b && now.here(a) && now.here(b) && now.memory[a][b] >= 50 && now.memory[b][a] >= 50;
    }

    int league(int p) {
        int r = no(who(p), away(p));
        return r != 0 ? r : now.bits(now.those(o -> inLeague(p, o)));
    }

    int largest(int w) {
        int r = no(what(w, 1));
        if (r != 0) {
            return r;
        }
        int best = 0;
        for (int bits = 0; bits < 256; bits++) {
            boolean all = true;
            for (int a = 0; a < 8; a++) {
                for (int b = 0; b < 8; b++) {
                    if ((bits >> a & 1) == 1 && (bits >> b & 1) == 1) {
                        all &= a == b ? now.here(a) : inLeague(a, b);
                    }
                }
            }
            if (all && Integer.bitCount(bits) > Integer.bitCount(best)) {
                best = bits;
            }
        }
        return w == 0 ? best : Integer.bitCount(best);
    }

    int cold(int w) {
        int r = no(what(w, 1));
        if (r != 0) {
            return r;
        }
        List<Integer> twos = new ArrayList<>();
        for (int code = 1; code < 80; code++) {
            int a = code / 10;
            int b = code % 10;
            if (a < b && now.here(a) && now.here(b) && now.memory[a][b] + now.memory[b][a] == 0) {
                twos.add(code);
            }
        }
        return w == 0 ? twos.size() : twos.isEmpty() ? -9 : twos.get(0);
    }

    int envy(int p) {
        int r = no(who(p), away(p));
        return r != 0 ? r : now.othersHere(p).stream()
            .min((a, b) -> now.memory[p][a] != now.memory[p][b] ? now.memory[p][a] - now.memory[p][b] : a - b).orElse(-9);
    }

    int power(int p, int n) {
        int r = no(who(p), low(n, 1), high(n, 60), away(p));
        if (r != 0) {
            return r;
        }
        Told t = now.copy();
        t.memory[p] = new int[8];
        int count = 0;
        for (int i = 1; i <= n; i++) {
            count += now.after(i).least() != t.after(i).least() ? 1 : 0;
        }
        return count;
    }

    int voids(int n) {
        int r = no(low(n, 1), high(n, 99));
        if (r != 0) {
            return r;
        }
        Told t = now.after(n);
        return now.those(p -> now.here(p) && !t.here(p)).stream().mapToInt(now::owes).sum();
    }

    int hill() {
        int sum = 0;
        for (int a = 0; a < now.size(); a++) {
            for (int b = a + 1; b < now.size(); b++) {
                sum += now.here(a) || now.here(b) ? 0 : now.memory[a][b] + now.memory[b][a];
            }
        }
        return sum;
    }

    int two(int a, int b, int n) {
        int r = no(whoTwo(a, b), low(n, 0), high(n, 30), away(a), away(b));
        if (r != 0) {
            return r;
        }
        for (int i = 0; i < 2; i++) {
            for (int j = 0; j < 2; j++) {
                boolean aStays = wins(a, a, i, b, j, n) >= wins(a, a, 1 - i, b, j, n);
                boolean bStays = wins(b, a, i, b, j, n) >= wins(b, a, i, b, 1 - j, n);
                if (aStays && bStays) {
                    return 10 * i + j;
                }
            }
        }
        return -9;
    }

    private int wins(int whose, int a, int i, int b, int j, int n) {
        Told t = now.copy();
        for (int o : t.othersHere(a)) {
            if (i == 1) {
                t.speak(a, o);
            }
        }
        for (int o : t.othersHere(b)) {
            if (j == 1) {
                t.speak(b, o);
            }
        }
        return t.after(n).known(whose) - 30 * (whose == a ? i : j);
    }

    long feast(int p, int n, int t, int part) {
        int r = no(who(p), low(n, 0), low(t, 2), high(n, 7), high(t, 20), what(part, 1));
        if (r != 0) {
            return 4000000000000000000L - r;
        }
        BigInteger above = ways(now, p, n, BigInteger.valueOf(t));
        BigInteger below = BigInteger.valueOf(t).pow(n);
        BigInteger d = above.gcd(below);
        return (part == 0 ? above : below).divide(d).longValueExact();
    }

    private static BigInteger ways(Told t, int p, int n, BigInteger odds) {
        if (n == 0) {
            return t.here(p) ? BigInteger.ONE : BigInteger.ZERO;
        }
        Told merry = t.copy();
        for (int a : merry.those(merry::here)) {
            for (int b : merry.othersHere(a)) {
                merry.add(a, b, 2);
            }
        }
        BigInteger without = ways(t.after(1), p, n - 1, odds).multiply(odds.subtract(BigInteger.ONE));
        return without.add(ways(merry.after(1), p, n - 1, odds));
    }

    long mean(int part) {
        int r = no(what(part, 1));
        if (r != 0) {
            return 4000000000000000000L - r;
        }
        int above = now.those(now::here).stream().mapToInt(now::known).sum();
        int below = now.hereCount();
        if (below == 0) {
            return part;
        }
        int d = BigInteger.valueOf(above).gcd(BigInteger.valueOf(below)).intValue();
        return (part == 0 ? above : below) / d;
    }

    int whatIs(int p, int o, int w) {
        int r = no(whoTwo(p, o), what(w, 1));
        if (r != 0) {
            return r;
        }
        int bits = 0;
        for (int v = 0; v < (w == 0 ? 6 : 10); v++) {
            Told t = now.copy();
            t.ones.get(p)[w] = v;
            boolean so = true;
            for (int i = 0; i < row.size(); i++) {
                so &= t.after(i).memory[o][p] == row.get(i);
            }
            bits += so ? 1 << v : 0;
        }
        return bits;
    }

    int row(int v) {
        int r = no(low(v, 0), high(v, 99), row.size() == 16 ? -6 : 0);
        if (r == 0) {
            row.add(v);
        }
        return r != 0 ? r : row.size();
    }

    int judge() {
        int answer = -9;
        for (int i = row.size() - 1; i >= 0; i--) {
            answer = now.after(i).hereCount() != row.get(i) ? i : answer;
        }
        row.clear();
        return answer;
    }

    int clear() {
        int had = row.size();
        row.clear();
        return had;
    }

    int lots(int n, int z, int w) {
        int r = no(low(n, 1), high(n, 20), what(w, 1));
        if (r != 0) {
            return r;
        }
        BigInteger seed = BigInteger.valueOf(z);
        int sum = 0;
        for (int i = 0; i < n; i++) {
            Told t = now.copy();
            for (int a = 0; a < t.size(); a++) {
                for (int b = 0; b < t.size(); b++) {
                    if (a != b) {
                        seed = seed.multiply(BigInteger.valueOf(1664525)).add(BigInteger.valueOf(1013904223))
                            .mod(BigInteger.ONE.shiftLeft(32));
                        t.memory[a][b] = seed.mod(BigInteger.ONE.shiftLeft(31)).intValue() / 256 % 100;
                    }
                }
            }
            Told then = t.after(20);
            sum += w == 0 ? then.hereCount() : then.those(then::here).stream().mapToInt(then::known).sum();
        }
        return sum;
    }

    int image() {
        image = now.copy();
        return now.week;
    }

    int on() {
        int r = no(image == null ? -3 : 0);
        if (r != 0) {
            return r;
        }
        now = image.copy();
        return now.week;
    }

    int count(int w) {
        return switch (w) {
            case 0 -> now.size();
            case 1 -> now.week;
            case 2 -> now.bits(now.those(now::here));
            case 3 -> now.names;
            case 4 -> now.those(now::here).stream().mapToInt(now::known).sum();
            case 5 -> now.those(p -> true).stream().mapToInt(now::owes).sum();
            case 6 -> row.size();
            case 7 -> letters.length();
            case 11, 12, 13, 14, 15, 16 -> refusals[w - 10];
            default -> -9;
        };
    }
}
