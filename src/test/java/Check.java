/** Counts answers that are not the ones that are due, and tells each of them. */
final class Check {
    private int wrong;

    void due(String call, long got, long want) {
        if (got != want) {
            wrong++;
            System.out.println(call + " answered " + got + ", due is " + want);
        }
    }

    int wrong() {
        return wrong;
    }

    void end() {
        if (wrong != 0) {
            System.out.println(wrong + " answers are not as due");
            System.exit(1);
        }
    }

    static void type(StillMinutes x, String text) {
        for (int i = 0; i < text.length(); i++) {
            x.type(text.charAt(i));
        }
    }

    /** A new object whose city is told by the text. */
    static StillMinutes told(String text) {
        StillMinutes x = new StillMinutes();
        type(x, text);
        if (x.city() < 0) {
            throw new IllegalStateException("a test's own text is faulty: " + text);
        }
        return x;
    }

    static void seconds(StillMinutes x, int many) {
        for (int i = 0; i < many; i++) {
            x.second();
        }
    }
}
