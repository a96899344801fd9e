import java.util.ArrayList;
import java.util.List;
import java.util.Random;

/** Runs of calls on made messages, with the same seed always: a MailTree answers as the Model does. */
final class ModelTest {
    private static final int RUNS = 6000;
    private static final int MOST_WRONG = 20;
    private static final Checks CHECKS = new Checks();
    private static final Random RANDOM = new Random(20261115);

    private static final String[] ENDS = {"\n", "\n", "\n", "\r\n", "\r\n", "\r\n", "\r\r\n", "\r", ""};
    private static final String[] SPACES = {"", "", "", "", " ", "\t", " \n ", "(c)", "(a(b)\\))", " (x) ", "(", "(\\"};
    private static final String[] TYPES = {"multipart", "Multipart", "multipart", "message", "MESSAGE", "text"};
    private static final String[] SUBTYPES = {"x", "rfc822", "rfc822", "RFC822", "mixed"};
    private static final String[] BOUNDARIES = {"q", "q", "q", "r", "r", "Q", "\"q\"", "\"\\q\"", "\"r\"", "--",
        "\"q q\"", "\"q \"", "\"\"", "\"q", "12345678901234567890", "123456789012345678901", "q/r", "\"\t\""};
    private static final String[] PLAIN_BOUNDARIES = {"q", "q", "r", "s", "--"};
    private static final String[] ATTRIBUTES = {"boundary", "boundary", "boundary", "Boundary", "charset", "", "b"};
    private static final String[] ENCODINGS = {"base64", "base64", "quoted-printable", "Quoted-Printable", "7bit",
        "base64 x", "\"base64\""};
    private static final String[] MARKS = {"--q", "--q", "--q", "--r", "--r", "--q--", "--r--", "--q ", "--q--\t",
        "----", "------", "--q q", "--Q", "--q-", "-q", "--12345678901234567890"};
    private static final String[] PIECES = {"a", "b", "-", "--", "=", "=", "=3D", "=3d", "=0D=0A", "=20", "=4", " ",
        " ", "\t", "\r", "\n", "\r\n", "QUJD", "QQ==", "+/", "\u0000", "\u00ff", ":", "A:b", "(", "\\", "\"", "=\n",
        "= \r\n", "abcdefghijklmnopqrstuvwxyz", "\u0001".repeat(9)};

    private final MailTree x = new MailTree();
    private String message = "";
    private String written = "";
    private List<Model.Node> nodes = new ArrayList<>();

    private ModelTest() {
    }

    public static void main(String[] args) {
        for (int run = 0; run < RUNS && CHECKS.wrong() < MOST_WRONG; run++) {
            ModelTest test = new ModelTest();
            for (int turn = 0; turn < 4; turn++) {
                test.makeMessage();
                test.readAndCompare();
                test.writeAndCompare();
            }
        }
        CHECKS.end();
    }

    private static String one(String[] from) {
        return from[RANDOM.nextInt(from.length)];
    }

    private static boolean oneIn(int n) {
        return RANDOM.nextInt(n) == 0;
    }

    private void makeMessage() {
        if (oneIn(3)) {
            message = written.substring(0, Math.min(320, written.length()));
            CHECKS.same("again", x.again(), message.length());
        } else if (!oneIn(4)) {
            CHECKS.same("clear", x.clear(), message.length());
            message = "";
        }
        StringBuilder more = new StringBuilder();
        if (oneIn(2)) {
            putEntity(more, 0);
        } else {
            putPlainEntity(more, 1);
        }
        if (oneIn(4)) {
            more.setLength(RANDOM.nextInt(more.length() + 1));
        }
        for (int i = 0; i < more.length(); i++) {
            boolean room = message.length() < 320;
            CHECKS.same("feed", x.feed(more.charAt(i) | RANDOM.nextLong() << 8, 1), room);
            message += room ? more.substring(i, i + 1) : "";
        }
    }

    /** An entity as it should be, most of the time: one that has parts, down to where all are leaves. */
    private static void putPlainEntity(StringBuilder b, int depth) {
        String boundary = one(PLAIN_BOUNDARIES);
        int kind = depth > 4 ? 0 : RANDOM.nextInt(3);
        if (kind == 1) {
            b.append("Content-Type:multipart/x;boundary=").append(boundary).append("\n\n");
            int parts = oneIn(5) ? 20 : RANDOM.nextInt(4);
            for (int i = 0; i < parts; i++) {
                b.append("--").append(boundary).append("\n");
                if (parts < 20 || oneIn(9)) {
                    putPlainEntity(b, depth + 1);
                    b.append(one(ENDS));
                }
            }
            b.append(oneIn(2) ? "--" + boundary + "--\r\n" : "");
        } else if (kind == 2) {
            b.append("Content-Type:message/rfc822\n\n");
            putPlainEntity(b, depth + 1);
        } else {
            if (!oneIn(4)) {
                b.append("Content-Transfer-Encoding:").append(one(ENCODINGS)).append("\n");
            }
            b.append("\n").append(oneIn(20) ? "\u0001".repeat(180 + RANDOM.nextInt(40)) : "");
            putPieces(b, oneIn(6) ? 80 : 10);
        }
    }

    private static void putEntity(StringBuilder b, int depth) {
        int fields = oneIn(12) ? 9 : RANDOM.nextInt(3);
        for (int i = 0; i < fields; i++) {
            b.append(oneIn(9) ? " " : "").append((char) (33 + RANDOM.nextInt(95))).append(":");
            b.append(fields == 9 ? "" : one(PIECES)).append(one(ENDS));
            b.append(oneIn(6) ? " \tgoes on \r\n" : "");
        }
        if (!oneIn(5)) {
            b.append(oneIn(2) ? "Content-Type:" : "cONTENT-tYPE:");
            putType(b);
            b.append(oneIn(8) ? one(ENDS) : "\n");
        }
        if (oneIn(2)) {
            b.append("Content-Transfer-Encoding:").append(one(SPACES)).append(one(ENCODINGS)).append(one(SPACES));
            b.append(oneIn(8) ? one(ENDS) : "\r\n");
        }
        b.append(oneIn(8) ? one(PIECES) : "").append(oneIn(8) ? one(ENDS) : "\n");
        putBody(b, depth);
    }

    private static void putType(StringBuilder b) {
        boolean spaced = oneIn(3);
        putSpaced(b, spaced, one(TYPES), "/", one(SUBTYPES));
        for (int i = RANDOM.nextInt(3); i >= 0; i--) {
            putSpaced(b, spaced, ";", one(ATTRIBUTES), "=", one(BOUNDARIES));
        }
    }

    private static void putSpaced(StringBuilder b, boolean spaced, String... pieces) {
        for (String piece : pieces) {
            b.append(spaced ? one(SPACES) : "").append(oneIn(40) ? one(PIECES) : piece);
        }
    }

    private static void putBody(StringBuilder b, int depth) {
        for (int i = RANDOM.nextInt(6); i >= 0 && b.length() < 400; i--) {
            if (oneIn(2)) {
                b.append(one(MARKS)).append(one(ENDS));
            }
            if (depth < 5 && oneIn(3)) {
                putEntity(b, depth + 1);
            } else {
                putPieces(b, 8);
            }
            b.append(one(ENDS));
        }
    }

    private static void putPieces(StringBuilder b, int most) {
        for (int k = RANDOM.nextInt(most); k >= 0; k--) {
            b.append(oneIn(9) ? String.valueOf((char) RANDOM.nextInt(256)) : one(PIECES));
        }
    }

    private void readAndCompare() {
        CHECKS.same("entities before read", x.entities(), nodes.size());
        nodes = Model.read(message);
        CHECKS.same("read of " + message, x.read(), nodes.size());
        CHECKS.same("entities of " + message, x.entities(), nodes.size());
        for (Model.Node n : nodes) {
            CHECKS.same("entity " + n.number + " of " + message, told(n.number), due(n));
        }
        CHECKS.noElement("behind the last entity", () -> x.look(nodes.size(), 0));
    }

    /** All that the MailTree tells of an entity. */
    private String told(int e) {
        if (e >= x.entities()) {
            return "none";
        }
        StringBuilder b = new StringBuilder();
        for (int what = 0; what < 10; what++) {
            b.append(x.look(e, what)).append(' ');
        }
        b.append(Mail.fields(x, e)).append('|').append(Mail.boundary(x, e)).append('|').append(Mail.content(x, e));
        b.append(Checks.outcome(() -> x.content(e, x.look(e, Mail.CONTENT))));
        b.append(Checks.outcome(() -> x.length(e, x.look(e, Mail.FIELDS), 0)));
        return b.toString();
    }

    private static String due(Model.Node n) {
        StringBuilder b = new StringBuilder();
        int[] looks = {n.kind, n.depth, n.parent, n.fields.size(), n.encoding, n.content.length(), n.parts.size(),
            n.begin, n.body, n.end};
        for (int look : looks) {
            b.append(look).append(' ');
        }
        for (String[] field : n.fields) {
            b.append(field[0]).append('=').append(field[1]).append(';');
        }
        b.append('|').append(n.boundary).append('|').append(n.content);
        return b.append("NoSuchElementException".repeat(2)).toString();
    }

    private void writeAndCompare() {
        String due = Model.write(nodes.get(0));
        boolean room = due.length() <= 700;
        Object answer = room ? (Object) due.length() : "UnsupportedOperationException";
        CHECKS.outcome("write of " + message, x::write, answer);
        written = room ? due : written;
        CHECKS.same("written of " + message, Mail.written(x), written);
    }
}
