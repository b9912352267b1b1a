/** All that can be seen of an object, so that two that must be alike can be compared. */
final class Look {

    private Look() { }

    /** What a look tells that changes nothing: all but how many refusals there were. */
    static String at(SoManyForgotten x) {
        StringBuilder text = new StringBuilder("counts");
        for (int what = 0; what < 8; what++) {
            text.append(' ').append(x.count(what));
        }
        int people = x.count(0);
        for (int one = 0; one < people; one++) {
            text.append("; ").append(one).append(':');
            for (int what = 0; what < 6; what++) {
                text.append(' ').append(x.person(one, what));
            }
            for (int other = 0; other < people; other++) {
                text.append(one == other ? "" : " " + x.memory(one, other));
            }
        }
        return text.toString();
    }

    static String atRefusals(SoManyForgotten x) {
        StringBuilder text = new StringBuilder("refusals");
        for (int what = 11; what <= 16; what++) {
            text.append(' ').append(x.count(what));
        }
        return text.toString();
    }

    /** The row, the letters and the image, which only calls that use them up can tell. */
    static String behind(SoManyForgotten x) {
        StringBuilder text = new StringBuilder("row");
        if (x.count(0) > 1) {
            text.append(' ').append(x.whatIs(0, 1, 0)).append(' ').append(x.whatIs(0, 1, 1));
        }
        text.append(' ').append(x.judge());
        text.append(", letters ").append(x.letter(';')).append(' ').append(x.valley()).append(' ').append(at(x));
        text.append(", image ").append(x.on()).append(' ').append(at(x));
        return text.toString();
    }
}
