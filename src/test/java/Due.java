import java.util.NoSuchElementException;

/** What the tests share: feeding texts, comparing answers, and ending with exit code 1 if one was wrong. */
final class Due {
    /** A call whose answer or exception is looked at. */
    interface Call {
        int answer();
    }

    private final String name;
    private Quotes quotes = null;
    private String about = "";
    private int looked = 0;
    private int wrong = 0;

    Due(String name) {
        this.name = name;
    }

    /** A test that quotes the document: what it quotes must stand there, and in the end nothing may be left. */
    Due(String name, Quotes quotes) {
        this.name = name;
        this.quotes = quotes;
    }

    /** What follows is a test of this promise. */
    void promise(int number) {
        about = "promise " + number + ": ";
    }

    /** What follows is a test of a rule of LANGUAGE.md. */
    void rule(int number, String words) {
        about = "rule " + number + ", " + words + ": ";
    }

    /** What follows is a test of these words, of the promise itself or of the terms that it uses. */
    void promise(int number, String words) {
        promise(number);
        if (quotes != null) {
            is("the document has '" + words + "'", quotes.quote(number, words), true);
        }
        about = "promise " + number + ", '" + words + "': ";
    }

    void is(String call, long got, long want) {
        looked++;
        if (got != want) {
            wrong++;
            System.out.println(name + ": " + about + call + " answered " + got + ", due is " + want);
        }
    }

    void is(String call, boolean got, boolean want) {
        is(call, got ? 1 : 0, want ? 1 : 0);
    }

    void missing(String call, Call made) {
        thrown(call, made, NoSuchElementException.class);
    }

    void unfit(String call, Call made) {
        thrown(call, made, IllegalArgumentException.class);
    }

    private void thrown(String call, Call made, Class<?> want) {
        looked++;
        String got;
        try {
            got = "answered " + made.answer();
        } catch (RuntimeException e) {
            if (e.getClass() == want) {
                return;
            }
            got = "threw " + e.getClass().getSimpleName();
        }
        wrong++;
        System.out.println(name + ": " + about + call + " " + got + ", due is " + want.getSimpleName());
    }

    /** Reads a text whose fault is due, at a place. */
    void faulty(String text, int fault, int place) {
        SailingLights x = new SailingLights();
        is("coast of '" + text + "'", read(x, text), fault);
        is("fault of '" + text + "'", x.fault(), place);
    }

    /** Reads a text without a fault. */
    SailingLights of(String text) {
        SailingLights x = new SailingLights();
        is("coast of '" + text + "'", read(x, text), 0);
        return x;
    }

    static int read(SailingLights x, String text) {
        feedAll(x, text);
        return x.coast(text.length());
    }

    static void feedAll(SailingLights x, String text) {
        for (int from = 0; from < text.length(); from += 20) {
            int[] fours = new int[5];
            for (int i = 0; i < 20; i++) {
                int sign = from + i < text.length() ? text.charAt(from + i) : ' ';
                fours[i / 4] = fours[i / 4] << 8 | sign;
            }
            x.feed(fours[0], fours[1], fours[2], fours[3], fours[4]);
        }
    }

    void end() {
        about = "";
        if (quotes != null) {
            for (String left : quotes.left()) {
                is("a test of '" + left + "'", false, true);
            }
        }
        System.out.println(name + ": " + looked + " looked at, " + wrong + " wrong");
        if (wrong != 0) {
            System.exit(1);
        }
    }
}
