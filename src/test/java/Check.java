/** What all tests share: counts wrong answers, tells them, and feeds texts. */
final class Check {
    /** A call whose answer, or exception, is looked at. */
    interface Call {
        int answer();
    }

    private final String title;
    private int wrong = 0;
    private int looked = 0;

    Check(String title) {
        this.title = title;
    }

    void same(String what, long got, long due) {
        looked++;
        if (got != due) {
            wrong++;
            System.out.println(title + ": " + what + " answered " + got + ", due is " + due);
        }
    }

    void fails(String what, Class<? extends RuntimeException> due, Call call) {
        looked++;
        String got;
        try {
            got = "the answer " + call.answer();
        } catch (RuntimeException e) {
            if (e.getClass() == due) {
                return;
            }
            got = e.getClass().getSimpleName();
        }
        wrong++;
        System.out.println(title + ": " + what + " gave " + got + ", due is " + due.getSimpleName());
    }

    void noPlace(String what, Call call) {
        fails(what, IndexOutOfBoundsException.class, call);
    }

    void noNumber(String what, Call call) {
        fails(what, IllegalArgumentException.class, call);
    }

    void noState(String what, Call call) {
        fails(what, IllegalStateException.class, call);
    }

    void noElement(String what, Call call) {
        fails(what, java.util.NoSuchElementException.class, call);
    }

    /** Ends the test's process, with 1 if an answer was wrong. */
    void close() {
        System.out.println(title + ": " + looked + " answers, " + wrong + " wrong");
        if (wrong != 0) {
            System.exit(1);
        }
    }

    static void feed(CartPaths paths, String text) {
        if (!paths.end(0)) {
            throw new AssertionError("the tape can always be emptied");
        }
        for (int k = 0; k < text.length(); k += 20) {
            paths.feed(four(text, k), four(text, k + 4), four(text, k + 8), four(text, k + 12), four(text, k + 16));
        }
        paths.end(text.length());
    }

    private static int four(String text, int start) {
        int number = 0;
        for (int k = start; k < start + 4; k++) {
            number = number << 8 | (k < text.length() ? text.charAt(k) & 255 : 0);
        }
        return number;
    }

    static CartPaths of(String text) {
        CartPaths paths = new CartPaths();
        feed(paths, text);
        paths.read();
        return paths;
    }
}
