/** The boundary cases of the term PARTS, a method for each sentence. */
final class BoundsOfPartsTest {
    private static final String TYPE = "Content-Type:multipart/x;boundary=q\n";
    private static final String MULTI = TYPE + "\n";
    private static final String INNER = "Content-Type:multipart/x;boundary=r\n\n";
    private static final String ENCLOSING = "Content-Type:message/rfc822\n\n";
    private static final Checks CHECKS = new Checks();

    private BoundsOfPartsTest() {
    }

    public static void main(String[] args) {
        enclosingHasItsBody();
        blanksBehindDelimiters();
        bytesBehindDelimiters();
        whatIsNoDelimiter();
        blanksBehindClosingOnes();
        whatIsNoClosingOne();
        boundariesOfAnySize();
        upToTheEndOfTheLineBefore();
        emptyParts();
        upToTheBodysEnd();
        nothingBehindAClosingOne();
        nothingBeforeADelimiter();
        numbersAsTheyCome();
        sixteenEntities();
        sixteenEntitiesInside();
        sixteenthEncloses();
        CHECKS.end();
    }

    /** Begin and end of each part of a multipart with this body, counted from the body's beginning. */
    private static void parts(String body, int... places) {
        partsOf(MULTI, body, places);
    }

    private static void partsOf(String head, String body, int... places) {
        MailTree x = Mail.read(head + body);
        StringBuilder due = new StringBuilder();
        for (int place : places) {
            due.append(place).append(' ');
        }
        StringBuilder got = new StringBuilder();
        for (int e = 1; e < x.entities(); e++) {
            got.append(x.look(e, Mail.BEGIN) - head.length()).append(' ');
            got.append(x.look(e, Mail.END) - head.length()).append(' ');
        }
        CHECKS.same("parts of " + body, got.toString(), due.toString());
        CHECKS.same("how many parts of " + body, x.look(0, Mail.PARTS), places.length / 2);
    }

    private static void enclosingHasItsBody() {
        CHECKS.of("ENCLOSING: one, its body.");
        for (String body : new String[] {"", "\n", "x", "A:b\n\nx", "--q\n", "\r\n\r\n"}) {
            MailTree x = Mail.read(ENCLOSING + body);
            int begin = ENCLOSING.length();
            CHECKS.same("entities with " + body, x.entities(), 2);
            CHECKS.same("parts with " + body, x.look(0, Mail.PARTS), 1);
            CHECKS.same("begin with " + body, x.look(1, Mail.BEGIN), begin);
            CHECKS.same("end with " + body, x.look(1, Mail.END), begin + body.length());
        }
        MailTree none = Mail.read("Content-Type:message/rfc822");
        CHECKS.same("places without a line's end", Mail.places(none, 1), "27,27,27");
        MailTree other = Mail.read("Content-Type:message/rfc822\nhello");
        CHECKS.same("places without an empty line", Mail.places(other, 1), "28,28,33");
    }

    private static void blanksBehindDelimiters() {
        CHECKS.of("a DELIMITER if its text is \"--\", the boundary, and blanks, if any");
        for (String blanks : new String[] {"", " ", "\t", " \t ", " ".repeat(100)}) {
            int begin = 3 + blanks.length();
            parts("--q" + blanks, begin, begin);
            parts("--q" + blanks + "\n", begin + 1, begin + 1);
            parts("--q" + blanks + "\r\n", begin + 2, begin + 2);
            parts("--q" + blanks + "\nx", begin + 1, begin + 2);
        }
        parts("--q\r\n", 5, 5);
        parts("--q\r\r\n");
        parts("--q\r");
        parts("--q \r \n");
    }

    private static void bytesBehindDelimiters() {
        CHECKS.of("a DELIMITER if its text is \"--\", the boundary, and blanks, if any");
        for (int b = 0; b <= 255; b++) {
            String c = String.valueOf((char) b);
            if (b == 32 || b == 9) {
                parts("--q" + c + "x");
                parts("--q" + c, 4, 4);
            } else if (b == '\n') {
                parts("--q" + c + "x", 4, 5);
            } else {
                parts("--q" + c);
                parts("--q" + c + " ");
                parts("--q " + c);
            }
        }
    }

    private static void whatIsNoDelimiter() {
        CHECKS.of("a line of the body is a DELIMITER if its text is");
        for (String line : new String[] {"", "q", "-q", "--", "-", "---q", "-- q", " --q", "\t--q", "--Q", "--qq",
            "--p", "--r", "x--q", "__q", "-_q", "_-q", "--q x", "--q\u0000", "--\"q\""}) {
            parts(line);
            parts(line + "\nx\n");
            parts("--q\n" + line + "\nx", 4, 4 + line.length() + 2);
        }
        MailTree x = Mail.read(TYPE + "--q\n\nx");
        CHECKS.same("a line that ends the fields is one of the body", Mail.places(x, 1), "40,41,42");
        MailTree y = Mail.read(TYPE + "--q:\n--q\n\nx");
        CHECKS.same("a field is none", y.look(0, Mail.FIELDS) + " " + y.look(0, Mail.PARTS), "2 1");
        MailTree z = Mail.read(TYPE + " --q\n\n");
        CHECKS.same("a line that goes on is none", z.look(0, Mail.PARTS), 0);
    }

    private static void blanksBehindClosingOnes() {
        CHECKS.of("a CLOSING one if it is \"--\", the boundary, \"--\", and blanks, if any");
        for (String blanks : new String[] {"", " ", "\t", "\t \t", " ".repeat(100)}) {
            for (String end : new String[] {"", "\n", "\r\n", "\nx\n--q\n"}) {
                parts("--q\nx\n--q--" + blanks + end, 4, 5);
                parts("--q--" + blanks + end);
            }
        }
    }

    private static void whatIsNoClosingOne() {
        CHECKS.of("a CLOSING one if it is \"--\", the boundary, \"--\", and blanks, if any");
        for (String line : new String[] {"--q-", "--q---", "--q -", "--q --", "--q--x", "--q-- x", "--q-- --", "--Q--",
            " --q--", "-q--", "q--", "--qq--", "--q- -", "--q__", "----", "--q--\u0000", "--q----"}) {
            parts("--q\n" + line + "\n--q\n", 4, 4 + line.length(), 4 + line.length() + 5, 4 + line.length() + 5);
        }
        parts("--q\nx\n--q--\r", 4, 12);
        parts("--q\n--q--\r\r\n--q\n", 4, 10, 16, 16);
        for (int b = 0; b <= 255; b++) {
            if (b != '\n' && b != '\r' && b != 32 && b != 9) {
                parts("--q\nx\n--q--" + (char) b + "\n", 4, 13);
            }
        }
    }

    private static void boundariesOfAnySize() {
        CHECKS.of("\"--\", the boundary");
        for (int size : new int[] {1, 2, 19, 20}) {
            String boundary = "abcdefghijklmnopqrst".substring(0, size);
            String head = "Content-Type:multipart/x;boundary=" + boundary + "\n\n";
            int begin = size + 3;
            partsOf(head, "--" + boundary + "\nx\n--" + boundary + "--", begin, begin + 1);
            partsOf(head, "--" + boundary.substring(0, size - 1) + "\nx\n");
            partsOf(head, "--" + boundary + "x\nx\n");
            partsOf(head, "--" + boundary.substring(0, size - 1) + "X\nx\n");
            partsOf(head, "--X" + boundary.substring(1) + "\nx\n");
        }
        partsOf("Content-Type:multipart/x;boundary=\"--\"\n\n", "----\nx\n------\n----\ny", 5, 6);
        partsOf("Content-Type:multipart/x;boundary=\"-\"\n\n", "---\nx\n-----\n---\ny", 4, 5);
        partsOf("Content-Type:multipart/x;boundary=\"q--\"\n\n", "--q--\nx\n--q----\ny", 6, 7);
        partsOf("Content-Type:multipart/x;boundary=\"a b\"\n\n", "--a\n--a b \nx\n--a b--", 11, 12);
    }

    private static void upToTheEndOfTheLineBefore() {
        CHECKS.of("which goes up to the end (not with it) of the line before the next delimiter or closing one");
        for (String mark : new String[] {"--q--", "--q-- \nx"}) {
            parts("--q\nx\n" + mark, 4, 5);
            parts("--q\nx\r\n" + mark, 4, 5);
            parts("--q\nx\r\r\n" + mark, 4, 6);
            parts("--q\nx\n\n" + mark, 4, 6);
            parts("--q\nx\r\n\r\n" + mark, 4, 7);
            parts("--q\nx \n" + mark, 4, 6);
            parts("--q\nx\n\r\n" + mark, 4, 6);
        }
        parts("--q\nx\n--q\ny\n--q--", 4, 5, 10, 11);
        parts("--q\nx\r\n--q \r\ny\r\n--q--", 4, 5, 13, 14);
        parts("--q\nA:b\n--q\n\n--q--", 4, 7, 12, 12);
    }

    private static void emptyParts() {
        CHECKS.of("(it is empty if that is the delimiter's own line)");
        parts("--q\n--q--", 4, 4);
        parts("--q\r\n--q--", 5, 5);
        parts("--q\n\n--q--", 4, 4);
        parts("--q\n\r\n--q--", 4, 4);
        parts("--q\n\r\r\n--q--", 4, 5);
        parts("--q\n--q\n--q\n--q--", 4, 4, 8, 8, 12, 12);
        parts("--q \t\r\n--q\r\n\r\n--q--", 7, 7, 12, 12);
        MailTree x = Mail.read(MULTI + "--q\r\n--q--");
        CHECKS.same("places of an empty part", Mail.places(x, 1), "42,42,42");
        CHECKS.same("fields of an empty part", x.look(1, Mail.FIELDS), 0);
        CHECKS.same("kind of an empty part", x.look(1, Mail.KIND), 0);
        CHECKS.same("content of an empty part", x.look(1, Mail.CONTENT), 0);
    }

    private static void upToTheBodysEnd() {
        CHECKS.of("or up to the body's end if there is none");
        parts("--q", 3, 3);
        parts("--q\n", 4, 4);
        parts("--q\n\n", 4, 5);
        parts("--q\nx", 4, 5);
        parts("--q\nx\n", 4, 6);
        parts("--q\nx\r\n\r\n", 4, 9);
        parts("--q\nx\n--q", 4, 5, 9, 9);
        parts("--q\nx\n--q\ny\n", 4, 5, 10, 12);
        MailTree x = Mail.read(MULTI + "--q\n" + INNER + "--r\nx\n\n--q--");
        CHECKS.same("up to the inner body's end", x.look(2, Mail.END), x.look(1, Mail.END));
        CHECKS.same("and no further", Mail.content(x, 2), "x\n");
    }

    private static void nothingBehindAClosingOne() {
        CHECKS.of("behind a closing one there are no parts");
        parts("--q--\n--q\nx\n--q--");
        parts("--q\nx\n--q--\n--q\ny\n", 4, 5);
        parts("--q\nx\n--q--\n--q--\n--q\ny", 4, 5);
        parts("--q\n--q--\n--q", 4, 4);
        MailTree x = Mail.read(MULTI + "--q\n" + INNER + "--r\nx\n--r--\n--r\ny\n--q\nz\n--q--\n--q\n");
        CHECKS.same("the inner one's closing one is not the outer one's", Mail.parents(x), "-1 0 1 0 ");
    }

    private static void nothingBeforeADelimiter() {
        CHECKS.of("Each delimiter begins a part behind it");
        parts("");
        parts("x");
        parts("x\n\n");
        parts("x\n--q\ny", 6, 7);
        parts("\n--q\ny", 5, 6);
        parts("x\n--q--\n");
        MailTree x = Mail.read(TYPE);
        CHECKS.same("no body, no parts", x.look(0, Mail.PARTS), 0);
    }

    private static void numbersAsTheyCome() {
        CHECKS.of("Entities are numbered 0, 1, .. as they come, the whole first, each before its parts");
        MailTree x = Mail.read(MULTI + "--q\n" + INNER + "--r\na\n--r\nb\n--q\n" + ENCLOSING + "c\n--q\nd");
        CHECKS.same("what they are part of", Mail.parents(x), "-1 0 1 1 0 4 0 ");
        CHECKS.same("their contents", Mail.content(x, 2) + Mail.content(x, 3) + Mail.content(x, 5)
                + Mail.content(x, 6), "abcd");
        for (int e = 1; e < x.entities(); e++) {
            CHECKS.same("in the order of their places " + e,
                    x.look(e, Mail.BEGIN) >= x.look(e - 1, Mail.BEGIN), true);
        }
    }

    private static void sixteenEntities() {
        CHECKS.of("there are at most 16: what would be another one is passed over");
        for (int count = 13; count <= 18; count++) {
            StringBuilder body = new StringBuilder();
            for (int i = 0; i < count; i++) {
                body.append("--q\n\n").append((char) ('a' + i)).append("\n");
            }
            MailTree x = Mail.read(MULTI + body + "--q--");
            int kept = Math.min(15, count);
            CHECKS.same("entities of " + count + " parts", x.entities(), 1 + kept);
            CHECKS.same("parts of " + count, x.look(0, Mail.PARTS), kept);
            CHECKS.same("the last of " + count, Mail.content(x, kept), String.valueOf((char) ('a' + kept - 1)));
            CHECKS.noElement("behind the last of " + count, () -> x.look(kept + 1, 0));
            x.write();
            CHECKS.same("what is written of " + count, Mail.written(x).split("--q\r\n").length, 1 + kept);
        }
    }

    private static void sixteenEntitiesInside() {
        CHECKS.of("there are at most 16: what would be another one is passed over");
        for (int count = 12; count <= 16; count++) {
            MailTree x = Mail.read(MULTI + "--q\n" + INNER + "--r\n".repeat(count) + "--q\n\nz\n--q\n\ny");
            int inside = Math.min(14, count);
            int outside = Math.min(2, 14 - inside);
            CHECKS.same("entities with " + count, x.entities(), 2 + inside + outside);
            CHECKS.same("inner parts with " + count, x.look(1, Mail.PARTS), inside);
            CHECKS.same("outer parts with " + count, x.look(0, Mail.PARTS), 1 + outside);
            CHECKS.same("kind of the last with " + count, x.look(x.entities() - 1, Mail.KIND), 0);
        }
        MailTree over = Mail.read(MULTI + "--q\n".repeat(15) + "--q\n" + ENCLOSING + "x");
        CHECKS.same("one that is passed over, with its parts", over.entities(), 16);
    }

    private static void sixteenthEncloses() {
        CHECKS.of("there are at most 16: what would be another one is passed over");
        for (int before = 12; before <= 15; before++) {
            MailTree x = Mail.read(MULTI + "--q\n".repeat(before) + ENCLOSING + "x\n--q--");
            CHECKS.same("entities", x.entities(), Math.min(16, before + 2));
            CHECKS.same("kind of number " + before, x.look(before, Mail.KIND), 2);
            CHECKS.same("parts of number " + before, x.look(before, Mail.PARTS), before < 15 ? 1 : 0);
            CHECKS.same("content of number " + before, x.look(before, Mail.CONTENT), 0);
            MailTree y = Mail.read(MULTI + "--q\n".repeat(before) + INNER + "--r\nx\n--q--");
            CHECKS.same("kind of the multipart " + before, y.look(before, Mail.KIND), 1);
            CHECKS.same("parts of the multipart " + before, y.look(before, Mail.PARTS), before < 15 ? 1 : 0);
            CHECKS.same("boundary of the multipart " + before, Mail.boundary(y, before), "r");
        }
    }
}
