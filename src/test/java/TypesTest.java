/** Promises 4, 6 and 10: type, parameters, encoding and kind out of values, and boundary. */
final class TypesTest {
    private static final Checks CHECKS = new Checks();

    private TypesTest() {
    }

    public static void main(String[] args) {
        boundariesOfMultiparts();
        firstBoundaryCounts();
        boundsOfBoundaries();
        noMultiparts();
        enclosing();
        encodings();
        firstFieldsCount();
        wrongBoundaryCalls();
        CHECKS.end();
    }

    private static MailTree typed(String type) {
        return Mail.read("Content-Type:" + type + "\n\nx");
    }

    private static void multipart(String type, String boundary) {
        MailTree x = typed(type);
        CHECKS.same("kind of " + type, x.look(0, Mail.KIND), 1);
        CHECKS.same("boundary of " + type, Mail.boundary(x, 0), boundary);
        CHECKS.same("content of " + type, x.look(0, Mail.CONTENT), 0);
    }

    private static void leaf(String type) {
        MailTree x = typed(type);
        CHECKS.same("kind of " + type, x.look(0, Mail.KIND), 0);
        CHECKS.same("boundary of " + type, x.boundary(0, 0), -1);
        CHECKS.same("content of " + type, Mail.content(x, 0), "x");
    }

    private static void boundariesOfMultiparts() {
        multipart("multipart/mixed;boundary=q", "q");
        multipart("MULTIpart/x; Boundary=Qq", "Qq");
        multipart(" (a) multipart (b) / (c) mixed (d) ; (e) boundary (f) = (g) q (h) ; (i", "q");
        multipart("(a(b(c)d)e)multipart/x;boundary=q", "q");
        multipart("(a\\)\\()multipart/x;boundary=q", "q");
        multipart("multipart/x;boundary=q(", "q");
        multipart("multipart/x;boundary=q(a\\", "q");
        multipart("multipart/x;a=b;c=\"d;boundary=e\";boundary=q", "q");
        multipart("multipart/x;a=\"\";boundary=q", "q");
        multipart("multipart/x;a=b (c) ;d=\"e\"\t;boundary=q", "q");
        multipart("multipart/x;a=\"(\";boundary=q", "q");
        multipart("multipart/x;boundary=\"a\\\"b\\\\c\\d\"", "a\"b\\cd");
        multipart("multipart/x;boundary=\" (q) ;~\"", " (q) ;~");
        multipart("multipart/x;boundary=q more", "q");
        multipart("multipart/x;boundary=q\"r\"", "q");
        multipart("multipart/x;boundary=q=r", "q");
        multipart("multipart/x;boundary=q/r", "q");
        multipart("multipart/x;boundary=!#$%&'*+-.^_`{|}~", "!#$%&'*+-.^_`{|}~");
        multipart("multipart/x;\n boundary=\"a\r\n b\"", "a b");
        multipart("multipart/x\t;\tboundary\t=\tq\t", "q");
    }

    private static void firstBoundaryCounts() {
        multipart("multipart/x;boundary=q;boundary=r", "q");
        multipart("multipart/x;boundary=q;boundary=\"\"", "q");
        multipart("multipart/x;boundaryy=r;bound=s;boundary=q", "q");
        leaf("multipart/x;boundary=\"\";boundary=r");
        leaf("multipart/x;boundary=\"r \";boundary=r");
        leaf("multipart/x;boundary=123456789012345678901;boundary=r");
    }

    private static void boundsOfBoundaries() {
        multipart("multipart/x;boundary=12345678901234567890", "12345678901234567890");
        multipart("multipart/x;boundary=\"" + "\\q".repeat(20) + "\"", "q".repeat(20));
        leaf("multipart/x;boundary=\"" + "\\q".repeat(21) + "\"");
        leaf("multipart/x;boundary=123456789012345678901");
        leaf("multipart/x;boundary=\"\"");
        leaf("multipart/x;boundary=\" \"");
        leaf("multipart/x;boundary=\"a \"");
        leaf("multipart/x;boundary=\"a\\ \"");
        leaf("multipart/x;boundary=\"a\tb\"");
        leaf("multipart/x;boundary=\"a\u007fb\"");
        leaf("multipart/x;boundary=\"a\u0080b\"");
        leaf("multipart/x;boundary=\"a\u001fb\"");
    }

    private static void noMultiparts() {
        leaf("");
        leaf("multipart");
        leaf("multipart;boundary=q");
        leaf(";boundary=q");
        leaf("multiparx/x;boundary=q");
        leaf("nultipart/x;boundary=q");
        leaf("multipart/x;boundarz=q");
        leaf("multipart/");
        leaf("multipart/;boundary=q");
        leaf("/x;boundary=q");
        leaf("multipart x;boundary=q");
        leaf("multipart/x");
        leaf("multipart/x boundary=q");
        leaf("multipart/x,;boundary=q");
        leaf("multipart/x;;boundary=q");
        leaf("multipart/x;a;boundary=q");
        leaf("multipart/x;a=;boundary=q");
        leaf("multipart/x;a=b c;boundary=q");
        leaf("multipart/x;\"boundary\"=q");
        leaf("multipart/x;boundary q");
        leaf("multipart/x;boundary=");
        leaf("multipart/x;boundary=\"q");
        leaf("multipart/x;boundary=\"q\\\"");
        leaf("multipart/x;boundary=\"q\\");
        leaf("multipart/x;boundary=(q)");
        leaf("multipart/x;(boundary=q");
        leaf("multipart/x;(a(b)boundary=q");
        leaf("multipart/x;(a\\)boundary=q");
        leaf("multipart/x;boundary=\u00e9");
        leaf("multipart/x;boundary=\u007f");
        leaf("multipart/\u007f;boundary=q");
        leaf("multipart)/x;boundary=q");
        leaf("multi/part;boundary=q");
        leaf("multiparts/x;boundary=q");
        leaf("\"multipart\"/x;boundary=q");
        leaf("text/plain;boundary=q");
        leaf("multipart\r/x;boundary=q");
        for (char c : "()<>@,;:\\\"/[]?=".toCharArray()) {
            leaf("multipart/" + c + ";boundary=q");
            leaf("multipart/x;boundary=" + c);
        }
    }

    private static void enclosing() {
        for (String type : new String[] {"message/rfc822", "MESSAGE/RFC822", "(a)message(b)/(c)rfc822(d",
                "message/rfc822 more", "message/rfc822;", "message/rfc822@", "message/rfc822;boundary=q"}) {
            MailTree x = typed(type);
            CHECKS.same("kind of " + type, x.look(0, Mail.KIND), 2);
            CHECKS.same("boundary of " + type, x.boundary(0, 0), -1);
            CHECKS.same("content of " + type, x.look(0, Mail.CONTENT), 0);
            CHECKS.noElement("byte of the content of " + type, () -> x.content(0, 0));
            CHECKS.same("content of the part of " + type, Mail.content(x, 1), "x");
        }
        leaf("message/rfc8222");
        leaf("message/rfc823");
        leaf("messagf/rfc822");
        leaf("message/partial");
        leaf("text/rfc822");
        leaf("multipart/rfc822");
        leaf("message rfc822");
        leaf("message");
    }

    private static void encoding(String value, int want) {
        MailTree x = Mail.read("Content-Transfer-Encoding:" + value + "\n\nx");
        CHECKS.same("encoding of " + value, x.look(0, Mail.ENCODING), want);
    }

    private static void encodings() {
        encoding("base64", 1);
        encoding(" BaSe64 ", 1);
        encoding("(a(b))base64(c)(d", 1);
        encoding("ba\n se64", 0);
        encoding("quoted-printable", 2);
        encoding("Quoted-Printable\t(x\\)", 2);
        encoding("", 0);
        encoding("(base64", 0);
        encoding("7bit", 0);
        encoding("base64;", 0);
        encoding("base64 x", 0);
        encoding("base64)", 0);
        encoding("base64,quoted-printable", 0);
        encoding("\"base64\"", 0);
        encoding("base 64", 0);
        encoding("base6", 0);
        encoding("base65", 0);
        encoding("case64", 0);
        encoding("quoted_printable", 0);
        encoding("base644", 0);
        encoding("quoted-printable/", 0);
        CHECKS.same("a multipart has an encoding", Mail.read("Content-Type:multipart/x;boundary=q\n"
                + "Content-Transfer-Encoding:base64\n\n").look(0, Mail.ENCODING), 1);
    }

    private static void firstFieldsCount() {
        String multi = "multipart/x;boundary=q\n";
        CHECKS.same("second Content-Type", Mail.read("Content-Type:;\nContent-Type:" + multi).look(0, Mail.KIND), 0);
        CHECKS.same("name in capitals", Mail.read("A:b\nCONTENT-TYPE:" + multi).look(0, Mail.KIND), 1);
        CHECKS.same("name too long", Mail.read("Content-Types:" + multi).look(0, Mail.KIND), 0);
        CHECKS.same("name not the same", Mail.read("Content-Typo:" + multi).look(0, Mail.KIND), 0);
        CHECKS.same("name too short", Mail.read("ontent-Type:" + multi).look(0, Mail.KIND), 0);
        CHECKS.same("eighth field", Mail.read("a:\n".repeat(7) + "Content-Type:" + multi).look(0, Mail.KIND), 1);
        CHECKS.same("ninth field", Mail.read("a:\n".repeat(8) + "Content-Type:" + multi).look(0, Mail.KIND), 0);
        CHECKS.same("second encoding", Mail.read("Content-Transfer-Encoding:?\ncontent-transfer-encoding:base64\n")
                .look(0, Mail.ENCODING), 0);
        CHECKS.same("encoding's name in capitals", Mail.read("CONTENT-TRANSFER-ENCODING:base64\n")
                .look(0, Mail.ENCODING), 1);
    }

    private static void wrongBoundaryCalls() {
        MailTree x = typed("multipart/x;boundary=qr");
        CHECKS.same("first byte", x.boundary(0, 0), (int) 'q');
        CHECKS.same("last byte", x.boundary(0, 1), (int) 'r');
        for (int i : new int[] {2, 20, -1, Integer.MIN_VALUE, Integer.MAX_VALUE}) {
            CHECKS.same("boundary(0, " + i + ")", x.boundary(0, i), -1);
        }
        for (int e : new int[] {-1, 1, 16, Integer.MIN_VALUE, Integer.MAX_VALUE}) {
            CHECKS.noElement("boundary(" + e + ", 0)", () -> x.boundary(e, 0));
        }
    }
}
