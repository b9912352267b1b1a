import java.util.ArrayList;
import java.util.List;

/** What the tests of the project share: answers that are compared, and valleys told in one text. */
final class Check {
    /** Words of the document, and the part of it where they stand. */
    record Quotation(String place, String words) { }

    private static final long LONGEST_IN_MILLISECONDS = 300_000;

    private final List<Quotation> quotations = new ArrayList<>();
    private int wrong = 0;
    private volatile String heading = "";

    Check() {
        Thread watch = new Thread(this::failIfItDoesNotEnd);
        watch.setDaemon(true);
        watch.start();
    }

    /** A call that never ends fails the test instead of holding it up. */
    private void failIfItDoesNotEnd() {
        try {
            Thread.sleep(LONGEST_IN_MILLISECONDS);
        } catch (InterruptedException e) {
            return;
        }
        System.out.println(heading + ": the test did not end in time");
        Runtime.getRuntime().halt(1);
    }

    void promise(String name) {
        heading = name;
    }

    /** Which promise ("Promise 2") or "Terms", and which of its sentences, the next answers are for. */
    void at(String place, String words) {
        heading = place + ", \"" + words + "\"";
        quotations.add(new Quotation(place, words));
    }

    List<Quotation> quotations() {
        return quotations;
    }

    void due(String call, long got, long want) {
        if (got != want) {
            tell(call + " answered " + got + ", due is " + want);
        }
    }

    void alike(String what, String got, String want) {
        if (!got.equals(want)) {
            tell(what + " is\n    " + got + "\n  due is\n    " + want);
        }
    }

    void tell(String text) {
        wrong++;
        System.out.println(heading + ": " + text);
    }

    void finish() {
        if (wrong != 0) {
            System.out.println(wrong + " answers are not as due");
            System.exit(1);
        }
    }

    static int tell(SoManyForgotten x, String text) {
        letters(x, text);
        return x.valley();
    }

    static void letters(SoManyForgotten x, String text) {
        for (int i = 0; i < text.length(); i++) {
            x.letter(text.charAt(i));
        }
    }

    static SoManyForgotten of(String... texts) {
        SoManyForgotten x = new SoManyForgotten();
        for (String text : texts) {
            int answer = tell(x, text);
            if (answer < 1) {
                throw new IllegalStateException("the test's own valley " + text + " has the fault " + answer);
            }
        }
        return x;
    }

    static SoManyForgotten rowOf(SoManyForgotten x, int... numbers) {
        for (int number : numbers) {
            x.row(number);
        }
        return x;
    }

    /** Lets weeks go by until it is that week, in as few calls as may be. */
    static SoManyForgotten atWeek(SoManyForgotten x, int week) {
        while (x.count(1) < week) {
            x.weeks(Math.min(60, week - x.count(1)));
        }
        return x;
    }
}
