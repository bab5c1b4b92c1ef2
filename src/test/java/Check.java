/** What all tests share: counts wrong answers, tells them, and feeds texts. */
final class Check {
    /** A call whose answer, or exception, is looked at. */
    interface Call {
        int answer();
    }

    private final String title;
    private final Document document;
    private String sentence = "";
    private int wrong = 0;
    private int looked = 0;

    Check(String title) {
        this(title, null);
    }

    /** For tests that quote the document's sentences. */
    Check(String title, Document document) {
        this.title = title;
        this.document = document;
    }

    void same(String what, long got, long due) {
        looked++;
        if (got != due) {
            tell(what + " answered " + got + ", due is " + due);
        }
    }

    void same(String what, String got, String due) {
        looked++;
        if (!got.equals(due)) {
            tell(what + " answered " + got + ", due is " + due);
        }
    }

    private void tell(String fault) {
        wrong++;
        System.out.println(title + ": " + sentence + fault);
    }

    /** What follows looks at these words of the document's terms. */
    void terms(String quote) {
        quote(Document.TERMS, quote);
    }

    /** What follows looks at these words of a promise. */
    void promise(int number, String quote) {
        quote(Integer.toString(number), quote);
    }

    private void quote(String section, String quote) {
        looked++;
        sentence = section + " \"" + quote + "\": ";
        if (!document.quote(section, quote)) {
            tell("these are not the document's words");
        }
    }

    void allQuoted() {
        sentence = "";
        same("sections of the document", document.sections(), 45);
        for (String piece : document.unquoted()) {
            tell("no test quotes " + piece);
        }
    }

    void fails(String what, Class<? extends RuntimeException> due, Call call) {
        looked++;
        String got;
        try {
            got = "the answer " + call.answer();
        } catch (RuntimeException e) {
            if (e.getClass() == due) {
                return;
            }
            got = e.getClass().getSimpleName();
        }
        tell(what + " gave " + got + ", due is " + due.getSimpleName());
    }

    /** Reads a text with a new object: it is refused if there is a fault. */
    void fault(String text, int due) {
        CartPaths paths = new CartPaths();
        feed(paths, text);
        if (due >= 0) {
            noNumber("read of " + text, paths::read);
        } else {
            paths.read();
        }
        same("fault of " + text, paths.fault(), due);
    }

    void noPlace(String what, Call call) {
        fails(what, IndexOutOfBoundsException.class, call);
    }

    void noNumber(String what, Call call) {
        fails(what, IllegalArgumentException.class, call);
    }

    void noState(String what, Call call) {
        fails(what, IllegalStateException.class, call);
    }

    void noElement(String what, Call call) {
        fails(what, java.util.NoSuchElementException.class, call);
    }

    /** Ends the test's process, with 1 if an answer was wrong. */
    void close() {
        System.out.println(title + ": " + looked + " answers, " + wrong + " wrong");
        if (wrong != 0) {
            System.exit(1);
        }
    }

    static void feed(CartPaths paths, String text) {
        if (!paths.end(0)) {
            throw new AssertionError("the tape can always be emptied");
        }
        for (int k = 0; k < text.length(); k += 20) {
            paths.feed(four(text, k), four(text, k + 4), four(text, k + 8), four(text, k + 12), four(text, k + 16));
        }
        paths.end(text.length());
    }

    private static int four(String text, int start) {
        int number = 0;
        for (int k = start; k < start + 4; k++) {
            number = number << 8 | (k < text.length() ? text.charAt(k) & 255 : 0);
        }
        return number;
    }

    static CartPaths of(String text) {
        CartPaths paths = new CartPaths();
        feed(paths, text);
        paths.read();
        return paths;
    }
}
