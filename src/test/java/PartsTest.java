/** Promises 4, 5 and 6: parts, their numbers, depths and places. */
final class PartsTest {
    private static final String MULTI = "Content-Type:multipart/x;boundary=q\n";
    private static final String ENCLOSING = "Content-Type:message/rfc822\n";
    private static final Checks CHECKS = new Checks();

    private PartsTest() {
    }

    public static void main(String[] args) {
        partsOfBodies();
        marks();
        boundariesLikeMarks();
        placesOfParts();
        lineEndsBeforeMarks();
        enclosing();
        nested();
        deepest();
        atMostSixteen();
        lastOnesEncloseNothing();
        CHECKS.end();
    }

    /** The contents of the parts of a multipart with this body, each in brackets. */
    private static String parts(String body) {
        MailTree x = Mail.read(MULTI + "\n" + body);
        StringBuilder b = new StringBuilder();
        for (int e = 1; e < x.entities(); e++) {
            b.append('[').append(Mail.content(x, e)).append(']');
        }
        CHECKS.same("how many parts of " + body, x.look(0, Mail.PARTS), x.entities() - 1);
        return b.toString();
    }

    private static void body(String body, String want) {
        CHECKS.same("parts of " + body, parts(body), want);
    }

    private static void partsOfBodies() {
        body("", "");
        body("text", "");
        body("--q", "[]");
        body("--q\n", "[]");
        body("--q\n\n", "[]");
        body("--q\n\na", "[a]");
        body("--q\n\na\n", "[a\n]");
        body("--q\n\na\n--q--", "[a]");
        body("--q\n\na\n\n--q--\n", "[a\n]");
        body("--q\n--q\n--q--", "[][]");
        body("--q\n\n--q--", "[]");
        body("before\n--q\n\na\n--q\n\nb\n--q--\nbehind\n--q\n\nc", "[a][b]");
        body("--q--\n--q\n\na", "");
        body("--q\n\na\n--q--\n--q--", "[a]");
        body("--q\nhello", "[hello]");
        body("--q\nA:b\n--q", "[][]");
    }

    private static void marks() {
        body("--q \t \n\na", "[a]");
        body("--q\n\na\n--q-- \t\nb", "[a]");
        body("--q\n\na\n--q -- \nb", "[a\n--q -- \nb]");
        body("--q\n\na\n--q- \nb", "[a\n--q- \nb]");
        body("--q\n\na\n--q---\nb", "[a\n--q---\nb]");
        body("--q\n\na\n--q--x\nb", "[a\n--q--x\nb]");
        body("--q\n\na\n--qq\nb", "[a\n--qq\nb]");
        body("--q\n\na\n--Q\nb", "[a\n--Q\nb]");
        body("--q\n\na\n --q\nb", "[a\n --q\nb]");
        body("--q\n\na\n-q\nb", "[a\n-q\nb]");
        body("--q\n\na\nxxq\nb", "[a\nxxq\nb]");
        body("--q\n\na\n-xq\nb", "[a\n-xq\nb]");
        body("--q\n\na\n--\nb", "[a\n--\nb]");
        body("--q\n\na\n---q\nb", "[a\n---q\nb]");
        body("--q\n\na\n--q\r\r\nb", "[a\n--q\r\r\nb]");
        body("--q\n\na\n--q\r", "[a\n--q\r]");
        body("--q\r\n\r\na\r\n--q--\r", "[a\r\n--q--\r]");
    }

    private static void boundariesLikeMarks() {
        MailTree dashes = Mail.read("Content-Type:multipart/x;boundary=\"--\"\n\n----\n\na\n------\n----\n");
        CHECKS.same("entities with boundary --", dashes.entities(), 2);
        CHECKS.same("content with boundary --", Mail.content(dashes, 1), "a");
        MailTree inner = Mail.read("Content-Type:multipart/x;boundary=\" a b\"\n\n-- a b \n\nx\n-- a b--\n");
        CHECKS.same("content with blanks in the boundary", Mail.content(inner, 1), "x");
    }

    private static void placesOfParts() {
        MailTree x = Mail.read("Content-Type:multipart/x;boundary=q\r\n\r\npre\r\n"
                + "--q\r\nA:b\r\n\r\nxy\r\n--q\r\nC:d\r\n--q--\r\n");
        CHECKS.same("places of the whole", Mail.places(x, 0), "0,39,77");
        CHECKS.same("places of the first part", Mail.places(x, 1), "49,56,58");
        CHECKS.same("places of the second part", Mail.places(x, 2), "65,68,68");
        CHECKS.same("fields of the second part", Mail.fields(x, 2), "C=d;");
        CHECKS.same("depths", x.look(0, Mail.DEPTH) + "" + x.look(1, Mail.DEPTH) + x.look(2, Mail.DEPTH), "122");
        CHECKS.same("parents", Mail.parents(x), "-1 0 0 ");
        CHECKS.same("parts of a leaf", x.look(1, Mail.PARTS), 0);
        MailTree open = Mail.read(MULTI + "\n--q\n\nab\n");
        CHECKS.same("places of a part without an end", Mail.places(open, 1), "41,42,45");
        CHECKS.same("depth of a part without an end", open.look(1, Mail.DEPTH), 2);
    }

    private static void lineEndsBeforeMarks() {
        body("--q\r\n\r\na\r\n--q--", "[a]");
        body("--q\n\na\r\r\n--q--", "[a\r]");
        body("--q\n\na\r\n\r\n--q--", "[a\r\n]");
        body("--q\n\r\n--q--", "[]");
        body("--q\n\r\r\n--q--", "[\r]");
        body("--q\r\n--q\r\n--q--\r\n", "[][]");
    }

    private static void enclosing() {
        MailTree x = Mail.read(ENCLOSING + "\nA:b\n\nxyz");
        CHECKS.same("entities", x.entities(), 2);
        CHECKS.same("kind", x.look(0, Mail.KIND), 2);
        CHECKS.same("parts", x.look(0, Mail.PARTS), 1);
        CHECKS.same("places of the enclosed one", Mail.places(x, 1), "29,34,37");
        CHECKS.same("fields of the enclosed one", Mail.fields(x, 1), "A=b;");
        CHECKS.same("content of the enclosed one", Mail.content(x, 1), "xyz");
        MailTree empty = Mail.read(ENCLOSING);
        CHECKS.same("an empty body is a part", empty.entities(), 2);
        CHECKS.same("places of the empty one", Mail.places(empty, 1), "28,28,28");
    }

    private static void nested() {
        MailTree x = Mail.read(MULTI + "\n--q\nContent-Type:multipart/y;boundary=r\n\n--r\n\na\n--r\n" + ENCLOSING
                + "\n\nb\n--q\n\nc\n--r\n\nd\n--q--\n--r\n");
        CHECKS.same("parents", Mail.parents(x), "-1 0 1 1 3 0 ");
        int[] kinds = {1, 1, 0, 2, 0, 0};
        for (int e = 0; e < kinds.length; e++) {
            CHECKS.same("kind of " + e, x.look(e, Mail.KIND), kinds[e]);
        }
        CHECKS.same("first", Mail.content(x, 2), "a");
        CHECKS.same("second", Mail.content(x, 4), "b");
        CHECKS.same("third", Mail.content(x, 5), "c\n--r\n\nd");
        CHECKS.same("parts of the whole", x.look(0, Mail.PARTS), 2);
        CHECKS.same("parts of the first", x.look(1, Mail.PARTS), 2);
        CHECKS.same("boundary of the first", Mail.boundary(x, 1), "r");
        CHECKS.same("boundary of the whole", Mail.boundary(x, 0), "q");
        MailTree same = Mail.read(MULTI + "\n--q\n" + MULTI + "\n--q\n\na\n--q--\n");
        CHECKS.same("the outer one's delimiters count first", Mail.parents(same), "-1 0 0 ");
    }

    private static void deepest() {
        MailTree x = Mail.read((ENCLOSING + "\n").repeat(5) + "end");
        CHECKS.same("entities", x.entities(), 4);
        CHECKS.same("kind at depth 3", x.look(2, Mail.KIND), 2);
        CHECKS.same("depth of the last", x.look(3, Mail.DEPTH), 4);
        CHECKS.same("kind at depth 4", x.look(3, Mail.KIND), 0);
        CHECKS.same("content at depth 4", Mail.content(x, 3), ENCLOSING + "\nend");
        MailTree y = Mail.read((ENCLOSING + "\n").repeat(3) + MULTI
                + "Content-Transfer-Encoding:base64\n\n--q\n\nQUJD\n");
        CHECKS.same("kind of a multipart at depth 4", y.look(3, Mail.KIND), 0);
        CHECKS.same("boundary of a multipart at depth 4", y.boundary(3, 0), -1);
        CHECKS.same("parts of a multipart at depth 4", y.look(3, Mail.PARTS), 0);
        CHECKS.same("content of a multipart at depth 4", Mail.content(y, 3).length(), 3);
    }

    private static void atMostSixteen() {
        MailTree fifteen = Mail.read(MULTI + "\n" + "--q\n".repeat(15));
        CHECKS.same("entities with fifteen parts", fifteen.entities(), 16);
        MailTree x = Mail.read(MULTI + "\n" + "--q\n\nab\n".repeat(20));
        CHECKS.same("entities with twenty parts", x.entities(), 16);
        CHECKS.same("parts of twenty", x.look(0, Mail.PARTS), 15);
        CHECKS.same("the last part", Mail.content(x, 15), "ab");
        CHECKS.noElement("a seventeenth entity", () -> x.look(16, 0));
        MailTree inner = Mail.read(MULTI + "\n--q\nContent-Type:multipart/x;boundary=r\n\n"
                + "--r\n".repeat(20) + "--q\n\nz");
        CHECKS.same("inner parts come first", inner.entities(), 16);
        CHECKS.same("the outer one has one", inner.look(0, Mail.PARTS), 1);
        CHECKS.same("the inner one has the rest", inner.look(1, Mail.PARTS), 14);
    }

    private static void lastOnesEncloseNothing() {
        MailTree x = Mail.read(MULTI + "\n" + "--q\n".repeat(15) + ENCLOSING + "\nx\n--q\n");
        CHECKS.same("entities", x.entities(), 16);
        CHECKS.same("kind of the last", x.look(15, Mail.KIND), 2);
        CHECKS.same("parts of the last", x.look(15, Mail.PARTS), 0);
        CHECKS.same("content of the last", x.look(15, Mail.CONTENT), 0);
        x.write();
        CHECKS.same("the last is written without a part", Mail.written(x).endsWith(
                "--q\r\nContent-Type: message/rfc822\r\n\r\n\r\n--q--\r\n"), true);
    }
}
