/** Short ways for tests to put texts into a MailTree and to get texts out of it; a letter is a byte. */
final class Mail {
    static final int KIND = 0;
    static final int DEPTH = 1;
    static final int PARENT = 2;
    static final int FIELDS = 3;
    static final int ENCODING = 4;
    static final int CONTENT = 5;
    static final int PARTS = 6;
    static final int BEGIN = 7;
    static final int BODY = 8;
    static final int END = 9;

    private Mail() {
    }

    static boolean feed(MailTree x, String text) {
        boolean all = true;
        for (int i = 0; i < text.length(); i += 8) {
            int n = Math.min(8, text.length() - i);
            long v = 0;
            for (int k = n - 1; k >= 0; k--) {
                v = v << 8 | text.charAt(i + k);
            }
            all &= x.feed(v, n);
        }
        return all;
    }

    static MailTree fed(String text) {
        MailTree x = new MailTree();
        if (!feed(x, text)) {
            throw new IllegalStateException("the test's message is too long: " + text.length());
        }
        return x;
    }

    static MailTree read(String text) {
        MailTree x = fed(text);
        x.read();
        return x;
    }

    static String name(MailTree x, int e, int f) {
        return fieldText(x, e, f, 0);
    }

    static String value(MailTree x, int e, int f) {
        return fieldText(x, e, f, 1);
    }

    private static String fieldText(MailTree x, int e, int f, int what) {
        StringBuilder b = new StringBuilder();
        for (int i = 0; i < x.length(e, f, what); i++) {
            b.append((char) x.letter(e, f, what, i));
        }
        return b.toString();
    }

    /** All fields of an entity, as name=value; */
    static String fields(MailTree x, int e) {
        StringBuilder b = new StringBuilder();
        for (int f = 0; f < x.look(e, FIELDS); f++) {
            b.append(name(x, e, f)).append('=').append(value(x, e, f)).append(';');
        }
        return b.toString();
    }

    static String content(MailTree x, int e) {
        StringBuilder b = new StringBuilder();
        for (int i = 0; i < x.look(e, CONTENT); i++) {
            b.append((char) x.content(e, i));
        }
        return b.toString();
    }

    static String boundary(MailTree x, int e) {
        StringBuilder b = new StringBuilder();
        for (int i = 0; x.boundary(e, i) >= 0; i++) {
            b.append((char) x.boundary(e, i));
        }
        return b.toString();
    }

    static String written(MailTree x) {
        StringBuilder b = new StringBuilder();
        for (int i = 0; x.written(i) >= 0; i++) {
            b.append((char) x.written(i));
        }
        return b.toString();
    }

    /** What is written of a message, which must have room. */
    static String rewritten(String text) {
        MailTree x = read(text);
        x.write();
        return written(x);
    }

    /** Where an entity begins, where its body begins, and its end. */
    static String places(MailTree x, int e) {
        return x.look(e, BEGIN) + "," + x.look(e, BODY) + "," + x.look(e, END);
    }

    /** What every entity is part of, one behind the other. */
    static String parents(MailTree x) {
        StringBuilder b = new StringBuilder();
        for (int e = 0; e < x.entities(); e++) {
            b.append(x.look(e, PARENT)).append(' ');
        }
        return b.toString();
    }
}
