/** Promises 11, 12 and 13: write, written and again. */
final class WriteTest {
    private static final String MULTI = "Content-Type: multipart/x; boundary=q\r\n";
    private static final String BASE64 = "Content-Transfer-Encoding: base64\r\n\r\n";
    private static final String QUOTED = "Content-Transfer-Encoding: quoted-printable\r\n\r\n";
    private static final Checks CHECKS = new Checks();

    private WriteTest() {
    }

    public static void main(String[] args) {
        fields();
        multiparts();
        enclosing();
        base64();
        quotedPrintable();
        quotedLines();
        tooMuch();
        writtenBytes();
        again();
        againHasRoomFor320();
        CHECKS.end();
    }

    private static void written(String message, String want) {
        MailTree x = Mail.read(message);
        CHECKS.outcome("write of " + message, x::write, want.length());
        CHECKS.same("written of " + message, Mail.written(x), want);
    }

    private static void fields() {
        written("", "\r\n");
        written("\n", "\r\n");
        written("hello", "\r\nhello");
        written("a:b\nC :d\n", "a: b\r\n\r\nC :d\n");
        written("A:\t\n\nx\n", "A: \r\n\r\nx\n");
        written("A: b \n\tc \n", "A: b \tc\r\n\r\n");
        written("a:\n".repeat(9), "a: \r\n".repeat(8) + "\r\na:\n");
    }

    private static void multiparts() {
        written(MULTI, MULTI + "\r\n--q--\r\n");
        written(MULTI + "\npre\n--q\nA:b\n\nx\n--q--\nbehind", MULTI + "\r\n--q\r\nA: b\r\n\r\nx\r\n--q--\r\n");
        written(MULTI + "\n--q\n--q", MULTI + "\r\n--q\r\n\r\n\r\n--q\r\n\r\n\r\n--q--\r\n");
        written(MULTI + "Content-Transfer-Encoding: base64\n\n--q\n\nx",
                MULTI + "Content-Transfer-Encoding: base64\r\n\r\n--q\r\n\r\nx\r\n--q--\r\n");
        String inner = "Content-Type: multipart/y; boundary=\"r s\"\r\n";
        written(MULTI + "\n--q\n" + inner + "\n--r s\n\na\n--r s\n\nb\n--q\n\nc",
                MULTI + "\r\n--q\r\n" + inner + "\r\n--r s\r\n\r\na\r\n--r s\r\n\r\nb\r\n--r s--\r\n"
                + "\r\n--q\r\n\r\nc\r\n--q--\r\n");
    }

    private static void enclosing() {
        String head = "Content-Type: message/rfc822\r\n\r\n";
        written("Content-Type:message/rfc822\n\nA:b\n\nx", head + "A: b\r\n\r\nx");
        written("Content-Type:message/rfc822", head + "\r\n");
        written(head.repeat(3) + "A:b\n\nx", head.repeat(3) + "A: b\r\n\r\nx");
        written(head.repeat(4) + "A:b\n\nx", head.repeat(4) + "A:b\n\nx");
        written(head + MULTI + "\n--q\n\nx", head + MULTI + "\r\n--q\r\n\r\nx\r\n--q--\r\n");
    }

    private static void base64() {
        written(BASE64, BASE64);
        written(BASE64 + "Q", BASE64);
        written(BASE64 + "QX", BASE64 + "QQ==\r\n");
        written(BASE64 + "QUL", BASE64 + "QUI=\r\n");
        written(BASE64 + "Q!U\nJD", BASE64 + "QUJD\r\n");
        written(BASE64 + "AP/+", BASE64 + "AP/+\r\n");
        written(BASE64 + "QUJD".repeat(6), BASE64 + "QUJD".repeat(6) + "\r\n");
        written(BASE64 + "QUJD".repeat(5) + "QQ", BASE64 + "QUJD".repeat(5) + "QQ==\r\n");
        written(BASE64 + "QUJD".repeat(6) + "QQ", BASE64 + "QUJD".repeat(6) + "\r\nQQ==\r\n");
        written(BASE64 + "QUJD".repeat(12), BASE64 + ("QUJD".repeat(6) + "\r\n").repeat(2));
        written(BASE64 + "ABCDEFGHIJKLMNOPQRSTUVWXYZabcdefghijklmnopqrstuvwxyz0123456789+/", BASE64
                + "ABCDEFGHIJKLMNOPQRSTUVWX\r\nYZabcdefghijklmnopqrstuv\r\nwxyz0123456789+/\r\n");
    }

    /** The body is in quoted-printable, too, so that each content can be given. */
    private static void quoted(String body, String want) {
        written(QUOTED + body, QUOTED + want);
    }

    private static void quotedPrintable() {
        quoted("", "");
        quoted("a!~<>b", "a!~<>b");
        quoted("=3D", "=3D");
        quoted("=", "=3D");
        quoted("=00=1f=7f=80=ff", "=00=1F=7F=80=FF");
        quoted("a\r\nb\nc\rd", "a\r\nb=0Ac=0Dd");
        quoted("a\r\r\n\n", "a=0D\r\n=0A");
        quoted("a\tb c", "a\tb c");
        quoted("a=20\r\nb=09\r\n", "a=20\r\nb=09\r\n");
        quoted("a=20=20\r\n", "a =20\r\n");
        quoted("a=20", "a=20");
        quoted("a=09=09", "a\t=09");
        quoted("a=20\n", "a =0A");
        quoted("a=20=0D", "a =0D");
        quoted("-", "=2D");
        quoted("--", "=2D-");
        quoted("a-\r\n-b\r\n--", "a-\r\n=2Db\r\n=2D-");
        quoted("a\n-", "a=0A-");
        quoted(" -", " -");
        quoted("a\r=20", "a=0D=20");
    }

    private static void quotedLines() {
        String twenty = "abcdefghijklmnopqrst";
        String thirty = twenty + "0123456789";
        quoted(thirty, thirty);
        quoted(thirty + "\r\nx", thirty + "\r\nx");
        quoted(thirty + "x", thirty + "=\r\nx");
        quoted(thirty + thirty, thirty + "=\r\n" + thirty);
        quoted(thirty + thirty + "x", thirty + "=\r\n" + thirty + "=\r\nx");
        quoted(twenty + "0123456=41=3D", twenty + "0123456A=\r\n=3D");
        quoted(twenty + "0123456=3D", twenty + "0123456=3D");
        quoted(twenty + "01234567=3D", twenty + "01234567=\r\n=3D");
        quoted(twenty + "012345678=3D", twenty + "012345678=\r\n=3D");
        quoted(thirty + "=3D", thirty + "=\r\n=3D");
        quoted(twenty + "0123456=3D=3D", twenty + "0123456=3D=\r\n=3D");
        quoted(twenty + "012345678-x", twenty + "012345678-=\r\nx");
        quoted(thirty + "-x", thirty + "=\r\n=2Dx");
        quoted(thirty + "--", thirty + "=\r\n=2D-");
        quoted(twenty + "012345678 x", twenty + "012345678 =\r\nx");
        quoted(thirty + " x", thirty + "=\r\n x");
        quoted(twenty + "0123456=20\r\n", twenty + "0123456=20\r\n");
        quoted(twenty + "01234567=20\r\n", twenty + "01234567=\r\n=20\r\n");
        quoted("=00".repeat(11), "=00".repeat(10) + "=\r\n=00");
        quoted("x\r\n" + thirty + "y", "x\r\n" + thirty + "=\r\ny");
    }

    /** A content of bytes that are written by three letters, and behind them of such that are by one. */
    private static MailTree quotedOf(int escaped, int plain) {
        return Mail.read(QUOTED.replace(" ", "").replace("\r", "") + "\u0001".repeat(escaped) + "a".repeat(plain));
    }

    private static void tooMuch() {
        // 47 bytes of fields; 195 bytes of three letters are 19 lines of 33 and one of 15: 47 + 627 + 15 = 689.
        MailTree full = quotedOf(195, 11);
        CHECKS.outcome("write of 700", full::write, 700);
        CHECKS.same("byte 699", full.written(699), (int) 'a');
        CHECKS.same("byte 700", full.written(700), -1);
        MailTree more = quotedOf(195, 12);
        CHECKS.outcome("write of 701", more::write, "UnsupportedOperationException");
        CHECKS.same("nothing was written", more.written(0), -1);

        MailTree x = Mail.read("A:b\n\nx");
        x.write();
        x.clear();
        Mail.feed(x, QUOTED + "\u0001".repeat(260));
        x.read();
        CHECKS.outcome("write of too much", x::write, "UnsupportedOperationException");
        CHECKS.outcome("write of too much again", x::write, "UnsupportedOperationException");
        CHECKS.same("what was written before stays", Mail.written(x), "A: b\r\n\r\nx");
        CHECKS.same("what was read stays", x.look(0, Mail.CONTENT), 260);
        CHECKS.same("again takes what was written before", x.again(), 9);
        CHECKS.same("it is read", x.read(), 1);
        CHECKS.outcome("and written", x::write, 9);
    }

    private static void writtenBytes() {
        MailTree x = Mail.read("A:\u00e9\n\n\u00ff\u0000");
        CHECKS.same("before write", x.written(0), -1);
        CHECKS.same("write", x.write(), 10);
        CHECKS.same("a byte of a value", x.written(3), 0xe9);
        CHECKS.same("a byte of a content", x.written(8), 0xff);
        CHECKS.same("the last byte", x.written(9), 0);
        for (int i : new int[] {10, 700, -1, Integer.MIN_VALUE, Integer.MAX_VALUE}) {
            CHECKS.same("written(" + i + ")", x.written(i), -1);
        }
        x.clear();
        x.read();
        CHECKS.same("read does not write", Mail.written(x).length(), 10);
        CHECKS.same("write of nothing", x.write(), 2);
        CHECKS.same("the latest", Mail.written(x), "\r\n");
    }

    private static void again() {
        MailTree x = Mail.read(MULTI + "\npre\n--q\nA:b\n\nx\n--q--\nbehind");
        int size = x.write();
        String first = Mail.written(x);
        String places = Mail.places(x, 1);
        CHECKS.same("again", x.again(), size);
        CHECKS.same("what was written stays", Mail.written(x), first);
        CHECKS.same("what was read stays", Mail.places(x, 1), places);
        CHECKS.same("read of it", x.read(), 2);
        CHECKS.same("write of it", x.write(), size);
        CHECKS.same("the same is written", Mail.written(x), first);
        CHECKS.same("it is the message", x.clear(), size);
        CHECKS.same("again after clear", x.again(), size);
        CHECKS.same("feed goes behind it", x.feed(65L, 1), true);
        CHECKS.same("with one more", x.clear(), size + 1);
        MailTree y = Mail.fed("abc");
        CHECKS.same("again with nothing written", y.again(), 0);
        CHECKS.same("nothing is the message", y.clear(), 0);
    }

    private static void againHasRoomFor320() {
        MailTree x = Mail.read(QUOTED + "\u0001".repeat(100));
        CHECKS.same("more than a message", x.write(), 47 + 300 + 9 * 3);
        CHECKS.same("again", x.again(), 320);
        CHECKS.same("no more room", x.feed(0L, 1), false);
        x.read();
        CHECKS.same("end of the message", x.look(0, Mail.END), 320);
        CHECKS.same("how much of the content", Mail.content(x, 0), "\u0001".repeat(83));
        for (int more = -1; more <= 1; more++) {
            MailTree y = Mail.read("A:b\n\n" + "x".repeat(312 + more));
            CHECKS.same("write of 320 and " + more, y.write(), 320 + more);
            CHECKS.same("again of 320 and " + more, y.again(), Math.min(320, 320 + more));
            CHECKS.same("message of 320 and " + more, y.clear(), Math.min(320, 320 + more));
        }
    }
}
