import java.util.NoSuchElementException;
import java.util.Objects;

/** Compares answers with those that are due, and ends the program with 1 if one was wrong. */
final class Checks {
    /** A call whose answer or exception is looked at. */
    interface Call {
        Object answer();
    }

    private int wrong = 0;
    private int made = 0;
    private String sentence = "";

    /** Tells which sentence of the document the checks behind this call are about. */
    void of(String words) {
        sentence = words;
    }

    void same(String what, Object got, Object want) {
        made++;
        if (!Objects.equals(got, want)) {
            wrong++;
            System.out.println(shown(what) + ": answered " + shown(got) + ", due is " + shown(want)
                    + (sentence.isEmpty() ? "" : " by: " + sentence));
        }
    }

    void noElement(String what, Call call) {
        same(what, outcome(call), NoSuchElementException.class.getSimpleName());
    }

    void badArgument(String what, Call call) {
        same(what, outcome(call), IllegalArgumentException.class.getSimpleName());
    }

    void outcome(String what, Call call, Object want) {
        same(what, outcome(call), want);
    }

    /** The answer, or the simple name of what was thrown. */
    static Object outcome(Call call) {
        try {
            return call.answer();
        } catch (RuntimeException e) {
            return e.getClass().getSimpleName();
        }
    }

    int wrong() {
        return wrong;
    }

    void end() {
        System.out.println(made + " checks, " + wrong + " wrong");
        if (wrong != 0) {
            System.exit(1);
        }
    }

    private static String shown(Object x) {
        String plain = String.valueOf(x);
        StringBuilder b = new StringBuilder();
        for (char c : plain.toCharArray()) {
            if (c == '\r') {
                b.append("\\r");
            } else if (c == '\n') {
                b.append("\\n");
            } else if (c == '\t') {
                b.append("\\t");
            } else if (c < 32 || c > 126) {
                b.append(String.format("\\x%02x", (int) c));
            } else {
                b.append(c);
            }
        }
        return "<" + b + ">";
    }
}
