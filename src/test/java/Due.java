import java.nio.charset.StandardCharsets;

/** What all tests share: a new object to try, texts for it, and a count of the answers that are not as due. */
final class Due {
    /** The answer of a call that throws a NoSuchElementException, and no class below it. */
    static final String THROWS = "throws.NoSuchElementException";

    private static int wrong = 0;
    private static int asked = 0;
    private static int sentences = 0;
    private static int askedAhead = 0;
    private static String sentence = "";

    private Due() {
    }

    /** A call that may throw. */
    interface Call {
        long answer();
    }

    /** What follows tests these words of the document; something must be asked for each. */
    static void sentence(String words) {
        endSentence();
        sentence = words;
        sentences++;
        askedAhead = asked;
    }

    private static void endSentence() {
        if (sentences > 0 && asked == askedAhead) {
            fail("nothing was asked");
        }
    }

    private static void fail(String line) {
        wrong++;
        if (!sentence.isEmpty()) {
            System.out.println("\"" + sentence + "\"");
        }
        System.out.println(line);
    }

    static void is(String what, long got, long want) {
        asked++;
        if (got != want) {
            fail(what + ": answered " + got + ", due is " + want);
        }
    }

    static void is(String what, String got, String want) {
        asked++;
        if (!got.equals(want)) {
            fail(what + ": answered " + got + ", due is " + want);
        }
    }

    static void holds(String what, boolean good) {
        asked++;
        if (!good) {
            fail(what + ": does not hold");
        }
    }

    /** The call must throw exactly a NoSuchElementException. */
    static void none(String what, Call call) {
        is(what, answer(call), THROWS);
    }

    /** What the call answers, in words, so that what it throws is an answer too. */
    static String answer(Call call) {
        try {
            return Long.toString(call.answer());
        } catch (RuntimeException e) {
            return "throws." + e.getClass().getSimpleName();
        }
    }

    /** Ends the test: exit code 1 if an answer was not as due. */
    static void end() {
        endSentence();
        String of = sentences > 0 ? " to " + sentences + " sentences" : "";
        System.out.println(asked + " answers" + of + ", " + wrong + " not as due");
        if (wrong != 0 || asked == 0) {
            System.exit(1);
        }
    }

    /** Runs the test in a thread with much room: the Oracle goes as deep as a text does. */
    static void deep(Runnable test) {
        Thread thread = new Thread(null, test, "deep", 1L << 29);
        thread.setUncaughtExceptionHandler((where, thrown) -> {
            holds("nothing else is thrown: " + thrown, false);
            thrown.printStackTrace(System.out);
        });
        thread.start();
        try {
            thread.join();
        } catch (InterruptedException e) {
            holds("the test comes to its end", false);
        }
    }

    /** Puts the text on the tape, with blanks up to a multiple of twenty. */
    static void feed(TokenCircuit x, String text) {
        byte[] bytes = text.getBytes(StandardCharsets.ISO_8859_1);
        for (int i = 0; i < bytes.length; i += 20) {
            x.feed(word(bytes, i), word(bytes, i + 4), word(bytes, i + 8), word(bytes, i + 12), word(bytes, i + 16));
        }
    }

    private static int word(byte[] bytes, int from) {
        int word = 0;
        for (int i = from; i < from + 4; i++) {
            word = word << 8 | (i < bytes.length ? bytes[i] & 255 : ' ');
        }
        return word;
    }

    static int build(TokenCircuit x, String text) {
        feed(x, text);
        return x.build(text.length());
    }

    /** A new object with this PROGRAM, which must have no FAULT. */
    static TokenCircuit made(String text) {
        TokenCircuit x = new TokenCircuit();
        is("build of " + text, build(x, text), 0);
        return x;
    }

    /** The text must have this FAULT; kind 0: none. */
    static void fault(String text, int kind, int place) {
        faultAlone(text, kind, place);
        // Behind a FAULT of kind 1 or 7 nothing is read any more; ahead of all others one of kind 1 goes.
        boolean isMet = kind == 7 || kind == 1 && place < text.length();
        if (text.length() + 2 <= 2000) {
            faultAlone(text + " #", isMet ? kind : 1, isMet ? place : text.length() + 1);
        }
    }

    private static void faultAlone(String text, int kind, int place) {
        TokenCircuit x = new TokenCircuit();
        is("build of " + text, build(x, text), kind == 0 ? 0 : -1);
        is("kind of the fault of " + text, x.fault(0), kind);
        is("place of the fault of " + text, x.fault(1), place);
    }

    static void sound(String text) {
        fault(text, 0, -1);
    }

    /** Gives the PARAMETERS, runs, and looks at the result. */
    static void result(TokenCircuit x, String what, int want, int... given) {
        for (int i = 0; i < given.length; i++) {
            x.give(i, given[i]);
        }
        is(what + " run", x.run(3000), 0);
        is(what + " result", x.told(1), want);
    }

    static String times(int n, String text) {
        return text.repeat(n);
    }
}
