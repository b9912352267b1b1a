/** What the tests of the project share: answers that are compared, and valleys told in one text. */
final class Check {
    private int wrong = 0;
    private String promise = "";

    void promise(String name) {
        promise = name;
    }

    void due(String call, long got, long want) {
        if (got != want) {
            wrong++;
            System.out.println(promise + ": " + call + " answered " + got + ", due is " + want);
        }
    }

    void finish() {
        if (wrong != 0) {
            System.out.println(wrong + " answers are not as due");
            System.exit(1);
        }
    }

    static int tell(SoManyForgotten x, String text) {
        for (int i = 0; i < text.length(); i++) {
            x.letter(text.charAt(i));
        }
        return x.valley();
    }

    static SoManyForgotten of(String... texts) {
        SoManyForgotten x = new SoManyForgotten();
        for (String text : texts) {
            int answer = tell(x, text);
            if (answer < 1) {
                throw new IllegalStateException("the test's own valley " + text + " has the fault " + answer);
            }
        }
        return x;
    }

    static SoManyForgotten rowOf(SoManyForgotten x, int... numbers) {
        for (int number : numbers) {
            x.row(number);
        }
        return x;
    }
}
