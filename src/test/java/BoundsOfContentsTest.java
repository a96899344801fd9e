/** The boundary cases of THE CONTENT of a leaf, a method for each sentence. */
final class BoundsOfContentsTest {
    private static final String LETTERS = "ABCDEFGHIJKLMNOPQRSTUVWXYZabcdefghijklmnopqrstuvwxyz0123456789+/";
    private static final String MULTI = "Content-Type:multipart/x;boundary=q\n\n--q\n";
    private static final Checks CHECKS = new Checks();

    private BoundsOfContentsTest() {
    }

    public static void main(String[] args) {
        bodyAsItIs();
        base64Letters();
        base64UpToEqualSign();
        base64Left();
        base64HighestBitsFirst();
        quotedDigits();
        quotedDigitsAtTheEnd();
        quotedNumbers();
        softLineEnds();
        whatIsNoSoftLineEnd();
        blanksBeforeLineEnds();
        blanksBeforeTheBodysEnd();
        blanksThatStay();
        allElseAsItIs();
        othersHaveNone();
        CHECKS.end();
    }

    private static void content(String encoding, String body, String want) {
        String head = "Content-Transfer-Encoding:" + encoding + "\n\n";
        MailTree x = Mail.read(head + body);
        CHECKS.same(encoding + " of " + body, Mail.content(x, 0), want);
        CHECKS.same("length of " + encoding + " of " + body, x.look(0, Mail.CONTENT), want.length());
        CHECKS.noElement("behind " + encoding + " of " + body, () -> x.content(0, want.length()));
        // Bytes behind the body would count, too, if one read on: a line's end, then a letter of base64.
        for (String end : new String[] {"\n", "\r\n"}) {
            if (!body.endsWith("\r") || end.length() == 2) {
                MailTree part = Mail.read(MULTI + head + body + end + "--q--");
                CHECKS.same(encoding + " in a part of " + body, Mail.content(part, 1), want);
            }
        }
    }

    private static void base64(String body, String want) {
        content("base64", body, want);
    }

    private static void quoted(String body, String want) {
        content("quoted-printable", body, want);
    }

    private static void bodyAsItIs() {
        CHECKS.of("encoding 0: its body.");
        for (String body : new String[] {"", "\n", "\r\n", "\r", " ", "=41", "=\n", "QUJD", "a \r\n", "\u0000\u00ff",
            "-", "x".repeat(200)}) {
            content("7bit", body, body);
        }
    }

    private static void base64Letters() {
        CHECKS.of("the bytes A .. Z, a .. z, 0 .. 9, +, / count (0 to 63) ..; all others are passed over");
        for (int b = 0; b <= 255; b++) {
            int digit = LETTERS.indexOf(b);
            String c = String.valueOf((char) b);
            if (digit >= 0) {
                base64(c + "/", String.valueOf((char) (digit << 2 | 3)));
                base64("//" + c + "/", "\u00ff" + (char) (0xf0 | digit >> 2) + (char) ((digit & 3) << 6 | 63));
            } else if (b != '=') {
                base64(c + "QUJD", "ABC");
                base64("QU" + c + "JD", "ABC");
                base64("QUJD" + c, "ABC");
                base64(c, "");
            }
        }
    }

    private static void base64UpToEqualSign() {
        CHECKS.of("up to the first \"=\"");
        base64("=", "");
        base64("=QUJD", "");
        base64("Q=UJD", "");
        base64("QU=JD", "A");
        base64("QUJ=D", "AB");
        base64("QUJD=", "ABC");
        base64("QUJD=QUJD", "ABC");
        base64("QU==QUJD", "A");
        base64("QUJD\n=\nQUJD", "ABC");
        base64("QUJDQUJD", "ABCABC");
    }

    private static void base64Left() {
        CHECKS.of("four of them are three bytes ..; of three that are left, two bytes, of two, one");
        String letters = "QUJDREVGR0hJSktM";
        String bytes = "ABCDEFGHIJKL";
        for (int count = 0; count <= letters.length(); count++) {
            String due = bytes.substring(0, count * 6 / 8);
            base64(letters.substring(0, count), due);
            base64(letters.substring(0, count) + "=", due);
            base64(letters.substring(0, count) + "\n", due);
        }
        base64("QUJD".repeat(50), "ABC".repeat(50));
    }

    private static void base64HighestBitsFirst() {
        CHECKS.of("the highest bits first");
        base64("gAAA", "\u0080\u0000\u0000");
        base64("AAAB", "\u0000\u0000\u0001");
        base64("AQID", "\u0001\u0002\u0003");
        base64("////", "\u00ff\u00ff\u00ff");
        base64("AAAA", "\u0000\u0000\u0000");
        base64("//", "\u00ff");
        base64("AP", "\u0000");
        base64("///", "\u00ff\u00ff");
        base64("AAD", "\u0000\u0000");
        base64("AAE", "\u0000\u0001");
    }

    private static int hexDigit(int b) {
        return b < 128 ? Character.digit(b, 16) : -1;
    }

    private static void quotedDigits() {
        CHECKS.of("\"=\" with two digits 0 .. 9, A .. F, a .. f is the byte with that number");
        for (int b = 0; b <= 255; b++) {
            String first = "=" + (char) b + "5x";
            String second = "=5" + (char) b + "x";
            int digit = hexDigit(b);
            if (digit >= 0) {
                quoted(first, (char) (16 * digit + 5) + "x");
                quoted(second, (char) (80 + digit) + "x");
            } else {
                quoted(first, b == '\n' ? "5x" : first);
                quoted(second, second);
            }
        }
    }

    private static void quotedDigitsAtTheEnd() {
        CHECKS.of("\"=\" with two digits");
        quoted("=", "=");
        quoted("=4", "=4");
        quoted("=41", "A");
        quoted("=411", "A1");
        quoted("==", "==");
        quoted("==4", "==4");
        quoted("==41", "=A");
        quoted("=4=41", "=4A");
        quoted("=41=4", "A=4");
        quoted("=4\n1", "=4\n1");
        quoted("=\n41", "41");
        quoted("x=", "x=");
    }

    private static void quotedNumbers() {
        CHECKS.of("is the byte with that number");
        for (int b = 0; b <= 255; b++) {
            quoted(String.format("=%02X", b), String.valueOf((char) b));
            quoted(String.format("a=%02xb", b), "a" + (char) b + "b");
        }
        quoted("=3D41", "=41");
        quoted("=20", " ");
        quoted("a=20\nb=09\r\n", "a \nb\t\r\n");
        quoted("=0D=0A", "\r\n");
        quoted("=3D\n", "=\n");
    }

    private static void softLineEnds() {
        CHECKS.of("\"=\", blanks, if any, and a line's end (LF, or CR LF) is nothing");
        for (String blanks : new String[] {"", " ", "\t", " \t ", " ".repeat(60)}) {
            for (String end : new String[] {"\n", "\r\n"}) {
                quoted("=" + blanks + end, "");
                quoted("a=" + blanks + end + "b", "ab");
                quoted("a=" + blanks + end + "=" + blanks + end + "b", "ab");
                quoted("a=" + blanks + end + end, "a" + end);
                quoted("a =" + blanks + end, "a ");
                quoted("a =" + blanks + end + " b", "a  b");
                quoted("a==" + blanks + end + "41", "a=41");
                quoted("a=4" + blanks + end + "b", "a=4" + end + "b");
            }
        }
        quoted("a=\n \nb", "a\nb");
        quoted("a =\n ", "a ");
    }

    private static void whatIsNoSoftLineEnd() {
        CHECKS.of("a line's end (LF, or CR LF)");
        quoted("a=\rb", "a=\rb");
        quoted("a=\r\r\nb", "a=\r\r\nb");
        quoted("a= \rb", "a= \rb");
        quoted("a=x\nb", "a=x\nb");
        quoted("a= x\nb", "a= x\nb");
        quoted("a= =\nb", "a= b");
        quoted("a=", "a=");
        quoted("a= ", "a=");
        quoted("a=\r", "a=\r");
        quoted("a= \t\r", "a= \t\r");
        quoted("a=\u000b\nb", "a=\u000b\nb");
    }

    private static void blanksBeforeLineEnds() {
        CHECKS.of("blanks before a line's end .. are nothing");
        for (String blanks : new String[] {" ", "\t", " \t ", " ".repeat(60)}) {
            for (String end : new String[] {"\n", "\r\n"}) {
                quoted("a" + blanks + end + "b", "a" + end + "b");
                quoted(blanks + end, end);
                quoted("a" + end + blanks + end + "b", "a" + end + end + "b");
            }
            quoted("a" + blanks + "\r" + "b", "a" + blanks + "\rb");
            quoted("a" + blanks + "\r\r\n" + "b", "a" + blanks + "\r\r\nb");
        }
        quoted("a\u000b\n\f\n\u00a0\n", "a\u000b\n\f\n\u00a0\n");
    }

    private static void blanksBeforeTheBodysEnd() {
        CHECKS.of("blanks before .. the body's end are nothing");
        for (String blanks : new String[] {" ", "\t", " \t ", " ".repeat(60)}) {
            quoted(blanks, "");
            quoted("a" + blanks, "a");
            quoted("a\n" + blanks, "a\n");
            quoted("=41" + blanks, "A");
            quoted("=4" + blanks, "=4");
            quoted("a" + blanks + "\r", "a" + blanks + "\r");
        }
        quoted("a=20", "a ");
        quoted("a=20 ", "a ");
    }

    private static void blanksThatStay() {
        CHECKS.of("all else is as it is");
        quoted(" a", " a");
        quoted("a b\tc", "a b\tc");
        quoted("\t \ta", "\t \ta");
        quoted("\n a", "\n a");
        quoted("a =41", "a A");
        quoted("a =", "a =");
        quoted("a =4", "a =4");
    }

    private static void allElseAsItIs() {
        CHECKS.of("all else is as it is");
        for (int b = 0; b <= 255; b++) {
            if (b != '=') {
                quoted("a" + (char) b + "b", "a" + (char) b + "b");
            }
        }
        quoted("", "");
        quoted("a\n\n", "a\n\n");
        quoted("\r\n\r\n", "\r\n\r\n");
    }

    private static void othersHaveNone() {
        CHECKS.of("Other entities have none.");
        String[] heads = {"Content-Type:multipart/x;boundary=q\n\n", "Content-Type:message/rfc822\n\n",
            "Content-Transfer-Encoding:base64\nContent-Type:message/rfc822\n\n",
            "Content-Transfer-Encoding:quoted-printable\nContent-Type:multipart/x;boundary=q\n\n"};
        for (String head : heads) {
            for (String body : new String[] {"", "QUJD", "--q\n\nQUJD"}) {
                MailTree x = Mail.read(head + body);
                CHECKS.same("length with " + head + body, x.look(0, Mail.CONTENT), 0);
                CHECKS.noElement("first byte with " + head + body, () -> x.content(0, 0));
            }
        }
    }
}
