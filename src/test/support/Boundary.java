import java.io.IOException;
import java.nio.file.Files;
import java.nio.file.Path;
import java.util.HashSet;
import java.util.Set;

/** What the tests of the boundary cases share: each one names a promise, a sentence of the document and the case. */
abstract class Boundary {
    private static final Path DOCUMENT = Path.of("../shared/DOC.md");
    private static final int PROMISES = 21;

    private static final Set<Integer> promises = new HashSet<>();
    private static Sentences sentences;
    private static boolean listing;
    private static int tests = 0;
    private static int wrong = 0;

    interface Body {
        void run(SlotTickets x);
    }

    /** Without the document the tests still run: only their quotes are not looked up. */
    static void begin(boolean listEach) throws IOException {
        listing = listEach;
        if (Files.exists(DOCUMENT)) {
            sentences = new Sentences(DOCUMENT);
        } else {
            System.out.println(DOCUMENT + " is not there: the quotes are not looked up");
        }
    }

    /** One test on a new object; the body ends at the first answer that is not due. */
    static void holds(int promise, String sentence, String boundary, Body body) {
        tests++;
        promises.add(promise);
        String name = (sentences == null ? "Promise " + promise : sentences.title(promise)) + ", \"" + sentence + "\", "
            + boundary;
        if (listing) {
            System.out.println(name);
        }
        if (sentences != null && !sentences.quote(promise, sentence)) {
            fails(name + ": the document has no such sentence there");
        }
        try {
            body.run(new SlotTickets());
        } catch (AssertionError | RuntimeException e) {
            fails(name + ": " + e + " " + lineOf(e));
        }
    }

    private static void fails(String line) {
        wrong++;
        System.out.println(line);
    }

    private static String lineOf(Throwable thrown) {
        for (StackTraceElement element : thrown.getStackTrace()) {
            if (element.getClassName().endsWith("Boundaries")) {
                return "(" + element.getFileName() + ":" + element.getLineNumber() + ")";
            }
        }
        return "";
    }

    static void is(Object want, Object got) {
        if (!want.equals(got)) {
            throw new AssertionError("answered " + got + ", due is " + want);
        }
    }

    static void index(Runnable call) {
        throwing(IndexOutOfBoundsException.class, call);
    }

    static void state(Runnable call) {
        throwing(IllegalStateException.class, call);
    }

    static void argument(Runnable call) {
        throwing(IllegalArgumentException.class, call);
    }

    private static void throwing(Class<?> want, Runnable call) {
        Class<?> got = null;
        try {
            call.run();
        } catch (RuntimeException e) {
            got = e.getClass();
        }
        if (got != want) {
            throw new AssertionError((got == null ? "answered" : "threw " + got.getName()) + ", due is " + want.getName());
        }
    }

    static void slots(SlotTickets x, int... places) {
        for (int p : places) {
            x.slot(p);
        }
    }

    /** Any number of guests may be sold to the slot up to its places and 8, since none of them comes. */
    static void noneComes(SlotTickets x, int slot) {
        x.over(slot, 0, 1, 0, 1);
    }

    /** Tickets of one guest each, in slots of 20 places, beginning with the first slot. */
    static void sellOnes(SlotTickets x, int count) {
        for (int i = 0; i < count; i++) {
            x.sell(i / 20, 1, 0);
        }
    }

    static void type(SlotTickets x, String text) {
        for (int i = 0; i < text.length(); i++) {
            x.unit(text.charAt(i));
        }
    }

    static int rules(SlotTickets x, String text) {
        type(x, text);
        return x.rules();
    }

    /** Ends the run of all tests: whether they hold, and whether they leave no sentence of the document out. */
    static boolean allHold() {
        for (int promise = 1; promise <= PROMISES; promise++) {
            if (!promises.contains(promise)) {
                fails("no test names promise " + promise);
            }
        }
        if (sentences != null) {
            for (String part : sentences.left()) {
                fails("no test quotes " + part);
            }
        }
        System.out.println(tests + " boundary cases, " + (wrong == 0 ? "all hold" : wrong + " faults"));
        return wrong == 0;
    }
}
