/** Promise 9: the contents of leaves in their transfer encodings. */
final class ContentTest {
    private static final Checks CHECKS = new Checks();

    private ContentTest() {
    }

    public static void main(String[] args) {
        asItIs();
        base64();
        base64Letters();
        quotedPrintable();
        blanksAtLineEnds();
        softLineEnds();
        partsKeepToTheirRanges();
        wrongCalls();
        CHECKS.end();
    }

    private static void content(String encoding, String body, String want) {
        MailTree x = Mail.read("Content-Transfer-Encoding:" + encoding + "\n\n" + body);
        CHECKS.same(encoding + " of " + body, Mail.content(x, 0), want);
        CHECKS.same("length of " + encoding + " of " + body, x.look(0, Mail.CONTENT), want.length());
    }

    private static void asItIs() {
        content("7bit", "", "");
        content("x", "a=3D \r\n\u0000\u00ff \n", "a=3D \r\n\u0000\u00ff \n");
    }

    private static void base64() {
        content("base64", "", "");
        content("base64", "Q", "");
        content("base64", "QU", "A");
        content("base64", "QUI", "AB");
        content("base64", "QUJD", "ABC");
        content("base64", "QUJDR", "ABC");
        content("base64", "QUJDRA", "ABCD");
        content("base64", "QQ==", "A");
        content("base64", "QUI=", "AB");
        content("base64", "QUI=QUJD", "AB");
        content("base64", "QUJD=QUJD", "ABC");
        content("base64", "=QUJD", "");
        content("base64", "Q\r\nU (!) J\tD", "ABC");
        content("base64", "Q-U_J\u00ffD\u0000\u00c1", "ABC");
        content("base64", "AP/+", "\u0000\u00ff\u00fe");
        content("base64", "QX", "A");
        content("base64", "QUL", "AB");
        content("BASE64", "qujd", "\u00aa\u00e8\u00dd");
    }

    private static void base64Letters() {
        content("base64", "ABCDEFGHIJKLMNOPQRSTUVWXYZabcdefghijklmnopqrstuvwxyz0123456789+/",
                "\u0000\u0010\u0083\u0010\u0051\u0087\u0020\u0092\u008b\u0030\u00d3\u008f\u0041\u0014\u0093"
                + "\u0051\u0055\u0097\u0061\u0096\u009b\u0071\u00d7\u009f\u0082\u0018\u00a3\u0092\u0059\u00a7"
                + "\u00a2\u009a\u00ab\u00b2\u00db\u00af\u00c3\u001c\u00b3\u00d3\u005d\u00b7\u00e3\u009e\u00bb"
                + "\u00f3\u00df\u00bf");
    }

    private static void quotedPrintable() {
        content("quoted-printable", "", "");
        content("quoted-printable", "=41=4a=4A=00=fF", "AJJ\u0000\u00ff");
        content("quoted-printable", "a=3Db=3D41", "a=b=41");
        content("quoted-printable", "=4", "=4");
        content("quoted-printable", "=", "=");
        content("quoted-printable", "==41", "=A");
        content("quoted-printable", "=4G=G4=4==4", "=4G=G4=4==4");
        content("quoted-printable", "=:0=/0=@0=`0=g0", "=:0=/0=@0=`0=g0");
        content("quoted-printable", "a\rb\u0000\u00ff\r\n\n", "a\rb\u0000\u00ff\r\n\n");
        content("quoted-printable", "=0D=0A", "\r\n");
        content("Quoted-Printable", "=4\n1", "=4\n1");
    }

    private static void blanksAtLineEnds() {
        content("quoted-printable", "a \nb\t\r\nc \t ", "a\nb\r\nc");
        content("quoted-printable", " \n", "\n");
        content("quoted-printable", "a \r\n", "a\r\n");
        content("quoted-printable", "  ", "");
        content("quoted-printable", " a\tb", " a\tb");
        content("quoted-printable", "a \rb \r", "a \rb \r");
        content("quoted-printable", "a=20 \nb=20", "a \nb ");
        content("quoted-printable", "a \r\r\n", "a \r\r\n");
        content("quoted-printable", "= ", "=");
        content("quoted-printable", "a= b", "a= b");
        content("quoted-printable", "=4 \n", "=4\n");
    }

    private static void softLineEnds() {
        content("quoted-printable", "a=\nb=\r\nc=\t \nd= \r\ne", "abcde");
        content("quoted-printable", "a =\n b", "a  b");
        content("quoted-printable", "a =\n \nb", "a \nb");
        content("quoted-printable", "a=\n", "a");
        content("quoted-printable", "a=\r\n", "a");
        content("quoted-printable", "a= \r\n", "a");
        content("quoted-printable", "a=\r", "a=\r");
        content("quoted-printable", "a= \rb", "a= \rb");
        content("quoted-printable", "a=\r\r\n", "a=\r\r\n");
        content("quoted-printable", "a==\nb", "a=b");
        content("quoted-printable", "a=\n=\n41", "a41");
        content("quoted-printable", "a =\n", "a ");
    }

    private static void partsKeepToTheirRanges() {
        String delimiter = "\n--q\nContent-Transfer-Encoding:";
        String head = "Content-Type:multipart/x;boundary=q\n" + delimiter;
        MailTree x = Mail.read(head + "quoted-printable\n\na=4" + delimiter + "base64\n\nQU\n--q\n\nJD");
        CHECKS.same("quoted-printable cut off", Mail.content(x, 1), "a=4");
        CHECKS.same("base64 cut off", Mail.content(x, 2), "A");
        CHECKS.same("as it is", Mail.content(x, 3), "JD");
        MailTree y = Mail.read(head + "quoted-printable\n\na =" + delimiter
                + "quoted-printable\n\nb \r\r\n--q--");
        CHECKS.same("= before the body's end", Mail.content(y, 1), "a =");
        CHECKS.same("a CR before the body's end", Mail.content(y, 2), "b \r");
        MailTree z = Mail.read(head + "quoted-printable\n\na=4\n1\n--q--");
        CHECKS.same("digits in two lines", Mail.content(z, 1), "a=4\n1");
        MailTree w = Mail.read(head + "quoted-printable\n\na \t\n--q--");
        CHECKS.same("blanks before the part's end", Mail.content(w, 1), "a");
    }

    private static void wrongCalls() {
        MailTree x = Mail.read("Content-Type:multipart/x;boundary=q\n\n--q\n\nabc\n--q\n\ndef\n--q--\n");
        CHECKS.same("first byte", x.content(1, 0), (int) 'a');
        CHECKS.same("last byte", x.content(1, 2), (int) 'c');
        CHECKS.same("first byte of the next", x.content(2, 0), (int) 'd');
        for (int i : new int[] {3, -1, Integer.MIN_VALUE, Integer.MAX_VALUE}) {
            CHECKS.noElement("content(1, " + i + ")", () -> x.content(1, i));
            CHECKS.noElement("content(2, " + i + ")", () -> x.content(2, i));
        }
        CHECKS.noElement("content of a multipart", () -> x.content(0, 0));
        for (int e : new int[] {3, -1, 16, Integer.MIN_VALUE, Integer.MAX_VALUE}) {
            CHECKS.noElement("content(" + e + ", 0)", () -> x.content(e, 0));
        }
    }
}
