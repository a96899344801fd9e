/** The boundary cases of what is WRITTEN, a method for each sentence. */
final class BoundsOfWritingTest {
    private static final String BASE64 = "Content-Transfer-Encoding: base64\r\n\r\n";
    private static final String QUOTED = "Content-Transfer-Encoding: quoted-printable\r\n\r\n";
    private static final String MULTI = "Content-Type: multipart/x; boundary=q\r\n\r\n";
    private static final String INNER = "Content-Type: multipart/x; boundary=r\r\n\r\n";
    private static final String ENCLOSING = "Content-Type: message/rfc822\r\n\r\n";
    private static final Checks CHECKS = new Checks();

    private BoundsOfWritingTest() {
    }

    public static void main(String[] args) {
        fields();
        multiparts();
        multipartsInMultiparts();
        enclosingOnes();
        enclosingWithoutPart();
        asItIs();
        base64WhatIsMissing();
        base64Lines();
        quotedBytes();
        quotedLineEnds();
        quotedContentsApart();
        quotedBlanks();
        quotedDashes();
        quotedDashesBehindBreaks();
        quotedPlainPlaces();
        quotedEscapedPlaces();
        quotedPlacesBeforeLineEnds();
        quotedPlacesOfEachLine();
        CHECKS.end();
    }

    private static void written(String message, String want) {
        MailTree x = Mail.read(message);
        CHECKS.outcome("write of " + message, x::write, want.length());
        CHECKS.same("written of " + message, Mail.written(x), want);
        if (want.length() <= 320) {
            x.again();
            x.read();
            x.write();
            CHECKS.same("written once more, of " + message, Mail.written(x), want);
        }
    }

    private static void fields() {
        CHECKS.of("each field: its name, \":\", 32, the value, CR LF; CR LF");
        written("", "\r\n");
        written("\n", "\r\n");
        written("\nx", "\r\nx");
        written("A:", "A: \r\n\r\n");
        written("A:b", "A: b\r\n\r\n");
        written("A:\t b \n c\t\n", "A: b  c\r\n\r\n");
        written("A: " + " ".repeat(300), "A: \r\n\r\n");
        for (int count = 7; count <= 9; count++) {
            String more = count > 8 ? "a:1\n" : "";
            MailTree x = Mail.read("a:1\n".repeat(count));
            x.write();
            CHECKS.same(count + " fields", Mail.written(x), "a: 1\r\n".repeat(Math.min(8, count)) + "\r\n" + more);
        }
        written("n".repeat(319) + ":", "n".repeat(319) + ": \r\n\r\n");
        written("A:" + "v".repeat(318), "A: " + "v".repeat(318) + "\r\n\r\n");
    }

    private static void multiparts() {
        CHECKS.of("of MULTIPART: for each part \"--\", the boundary, CR LF, the part, CR LF; "
                + "then \"--\", the boundary, \"--\", CR LF");
        String part = "--q\r\n\r\n\r\n";
        written(MULTI, MULTI + "--q--\r\n");
        written(MULTI + "x\n--q--\n--q\n", MULTI + "--q--\r\n");
        for (int count = 1; count <= 14; count++) {
            written(MULTI + "--q\n".repeat(count), MULTI + part.repeat(count) + "--q--\r\n");
        }
        for (int count : new int[] {15, 16, 17}) {
            written(MULTI + "--q\n".repeat(count), MULTI + part.repeat(15) + "--q--\r\n");
        }
        written(MULTI + "--q\nA:b\n--q\n\nx\n\n--q--\nbehind",
                MULTI + "--q\r\nA: b\r\n\r\n\r\n--q\r\n\r\nx\n\r\n--q--\r\n");
        for (int size : new int[] {1, 19, 20}) {
            String boundary = "b".repeat(size);
            String head = "Content-Type: multipart/x; boundary=" + boundary + "\r\n\r\n";
            written(head + "--" + boundary + "\n\nx",
                    head + "--" + boundary + "\r\n\r\nx\r\n--" + boundary + "--\r\n");
        }
    }

    private static void multipartsInMultiparts() {
        CHECKS.of("of MULTIPART: for each part \"--\", the boundary, CR LF, the part, CR LF");
        written(MULTI + "--q\n" + INNER, MULTI + "--q\r\n" + INNER + "--r--\r\n\r\n--q--\r\n");
        written(MULTI + "--q\n" + INNER + "--r\n\nx\n--q\n\ny", MULTI + "--q\r\n" + INNER
                + "--r\r\n\r\nx\r\n--r--\r\n\r\n--q\r\n\r\ny\r\n--q--\r\n");
        MailTree full = Mail.read(MULTI + "--q\n" + INNER + "--r\n".repeat(15) + "--q\n");
        full.write();
        CHECKS.same("no part of the whole behind sixteen", Mail.written(full), MULTI + "--q\r\n" + INNER
                + "--r\r\n\r\n\r\n".repeat(14) + "--r--\r\n\r\n--q--\r\n");
    }

    private static void enclosingOnes() {
        CHECKS.of("ENCLOSING: its part");
        written(ENCLOSING, ENCLOSING + "\r\n");
        written(ENCLOSING + "\n", ENCLOSING + "\r\n");
        written(ENCLOSING + "A:b\n\nx", ENCLOSING + "A: b\r\n\r\nx");
        written(ENCLOSING.repeat(3) + "A:b\n\nx", ENCLOSING.repeat(3) + "A: b\r\n\r\nx");
        written(ENCLOSING.repeat(4) + "A:b\n\nx", ENCLOSING.repeat(4) + "A:b\n\nx");
    }

    private static void enclosingWithoutPart() {
        CHECKS.of("its part, if it has one");
        for (int before = 13; before <= 15; before++) {
            MailTree x = Mail.read(MULTI + "--q\n".repeat(before) + ENCLOSING + "x\n--q--");
            x.write();
            String enclosed = before < 15 ? "\r\nx" : "";
            CHECKS.same("behind " + before, Mail.written(x), MULTI + "--q\r\n\r\n\r\n".repeat(before - 1)
                    + "--q\r\n" + ENCLOSING + enclosed + "\r\n--q--\r\n");
        }
    }

    private static void asItIs() {
        CHECKS.of("A leaf: its content: encoding 0: as it is.");
        for (String content : new String[] {"", "\n", "\r\n", "\r", " ", "-", "=", "\u0000\u00ff", "a \r\n",
            "x".repeat(300)}) {
            written("\n" + content, "\r\n" + content);
        }
    }

    private static void base64(String body, String want) {
        written(BASE64 + body, BASE64 + want);
    }

    private static void base64WhatIsMissing() {
        CHECKS.of("by four letters for three bytes, zero bits added, \"=\" for what is missing");
        base64("", "");
        base64("Q", "");
        base64("QU", "QQ==\r\n");
        base64("//", "/w==\r\n");
        base64("QUJ", "QUI=\r\n");
        base64("///", "//8=\r\n");
        base64("QUJD", "QUJD\r\n");
        base64("////", "////\r\n");
        base64("QUJDQ", "QUJD\r\n");
        base64("QUJDQQ", "QUJDQQ==\r\n");
        base64("QUJDQUI", "QUJDQUI=\r\n");
        base64("AA", "AA==\r\n");
        base64("AAA", "AAA=\r\n");
        base64("AAAA", "AAAA\r\n");
        for (int digit = 0; digit < 64; digit++) {
            String letters = "ABCDEFGHIJKLMNOPQRSTUVWXYZabcdefghijklmnopqrstuvwxyz0123456789+/";
            String four = letters.charAt(digit) + "A" + letters.charAt(63 - digit) + letters.charAt(digit);
            base64(four, four + "\r\n");
        }
    }

    private static void base64Lines() {
        CHECKS.of("CR LF behind each 24 letters and behind the last ones");
        String[] behind = {"", "QQ==", "QUI="};
        for (int bytes = 0; bytes <= 74; bytes++) {
            String letters = "QUJD".repeat(bytes / 3) + behind[bytes % 3];
            StringBuilder due = new StringBuilder();
            for (int i = 0; i < letters.length(); i += 24) {
                due.append(letters, i, Math.min(letters.length(), i + 24)).append("\r\n");
            }
            base64(letters, due.toString());
        }
        base64("QUJD".repeat(6), "QUJDQUJDQUJDQUJDQUJDQUJD\r\n");
        base64("QUJD".repeat(6) + "QQ", "QUJDQUJDQUJDQUJDQUJDQUJD\r\nQQ==\r\n");
        base64("QUJD".repeat(5) + "QUI", "QUJDQUJDQUJDQUJDQUJDQUI=\r\n");
        base64("QUJD".repeat(12), "QUJDQUJDQUJDQUJDQUJDQUJD\r\n".repeat(2));
    }

    /** The body is in quoted-printable, too, so that each content can be given. */
    private static void quoted(String body, String want) {
        written(QUOTED + body, QUOTED + want);
    }

    private static void quotedBytes() {
        CHECKS.of("33 .. 126 but \"=\" as themselves; ..; otherwise \"=\" and the number in two digits 0 .. 9, A .. F");
        for (int b = 0; b <= 255; b++) {
            String escaped = String.format("=%02X", b);
            boolean plain = b >= 33 && b <= 126 && b != '=' || b == 32 || b == 9;
            String due = plain ? String.valueOf((char) b) : escaped;
            quoted("a" + escaped + "b", "a" + due + "b");
            quoted(escaped.toLowerCase() + "b", (b == '-' ? escaped : due) + "b");
        }
        quoted("", "");
        quoted("=3D41", "=3D41");
        quoted("=", "=3D");
    }

    private static void quotedLineEnds() {
        CHECKS.of("CR LF as it is");
        quoted("\r\n", "\r\n");
        quoted("a\r\n\r\nb", "a\r\n\r\nb");
        quoted("=0D=0A", "\r\n");
        quoted("a\rb", "a=0Db");
        quoted("a\nb", "a=0Ab");
        quoted("a\n\rb", "a=0A=0Db");
        quoted("a\r\r\nb", "a=0D\r\nb");
        quoted("a\r\n\nb", "a\r\n=0Ab");
        quoted("a\r", "a=0D");
        quoted("a\n", "a=0A");
        quoted("a=0D=\n=0Ab", "a\r\nb");
    }

    /** Two parts in quoted-printable, the second one behind the first one. */
    private static void quotedParts(String first, String second, String firstDue, String secondDue) {
        String part = "--q\r\n" + QUOTED;
        written(MULTI + part + first + "\r\n" + part + second + "\r\n--q--\r\n",
                MULTI + part + firstDue + "\r\n" + part + secondDue + "\r\n--q--\r\n");
    }

    private static void quotedContentsApart() {
        CHECKS.of("CR LF as it is; ..; a blank too, if something else than CR LF comes behind it");
        quotedParts("a=0D", "=0Ab", "a=0D", "=0Ab");
        quotedParts("a=20=0D", "=0Ab", "a =0D", "=0Ab");
        quotedParts("a=20", "=0D=0Ab", "a=20", "\r\nb");
        quotedParts("a=20", "b", "a=20", "b");
        quotedParts("a", "-", "a", "=2D");
        quotedParts("a".repeat(30), "b", "a".repeat(30), "b");
    }

    private static void quotedBlanks() {
        CHECKS.of("a blank too, if something else than CR LF comes behind it");
        quoted("a b", "a b");
        quoted("a\tb", "a\tb");
        quoted(" b", " b");
        quoted("a=20", "a=20");
        quoted("a=09", "a=09");
        quoted("=20", "=20");
        quoted("a=20\r\nb", "a=20\r\nb");
        quoted("a=09\r\nb", "a=09\r\nb");
        quoted("a=20=20\r\nb", "a =20\r\nb");
        quoted("a=20=09=20", "a \t=20");
        quoted("a=20=0Db", "a =0Db");
        quoted("a=20=0Ab", "a =0Ab");
        quoted("a=20=0D", "a =0D");
        quoted("a=20=0D=0D=0A", "a =0D\r\n");
        quoted("a=20=00", "a =00");
        quoted("a =3D", "a =3D");
        quoted("=20\r\n", "=20\r\n");
        quoted("=1F=21", "=1F!");
    }

    private static void quotedDashes() {
        CHECKS.of("a \"-\" not at a line's beginning");
        quoted("-", "=2D");
        quoted("--", "=2D-");
        quoted("a-", "a-");
        quoted("a--b", "a--b");
        quoted("\r\n-", "\r\n=2D");
        quoted("a\r\n--q", "a\r\n=2D-q");
        quoted("-\r\n-\r\n-", "=2D\r\n=2D\r\n=2D");
        quoted("a-\r\nb-", "a-\r\nb-");
        quoted(" -", " -");
        quoted("a\n-", "a=0A-");
        quoted("a\r-", "a=0D-");
        quoted("=00-", "=00-");
        quoted(",.+", ",.+");
    }

    private static void quotedDashesBehindBreaks() {
        CHECKS.of("a \"-\" not at a line's beginning");
        for (int before = 28; before <= 32; before++) {
            String line = "a".repeat(before);
            String due = before < 30 ? line + "-"
                    : before == 30 ? line + "=\r\n=2D" : "a".repeat(30) + "=\r\n" + "a".repeat(before - 30) + "-";
            quoted(line + "-", due);
        }
        quoted("a".repeat(30) + "--", "a".repeat(30) + "=\r\n=2D-");
        quoted("-".repeat(29), "=2D" + "-".repeat(27) + "=\r\n=2D");
        quoted("-".repeat(28), "=2D" + "-".repeat(27));
        quoted("a".repeat(30) + "\r\n-", "a".repeat(30) + "\r\n=2D");
    }

    private static void quotedPlainPlaces() {
        CHECKS.of("before that which would be behind the 30th place of a line, \"=\" and CR LF");
        for (int size : new int[] {1, 28, 29, 30, 31, 32, 59, 60, 61, 62, 90, 91, 120, 121}) {
            StringBuilder due = new StringBuilder();
            for (int i = 0; i < size; i++) {
                due.append(i > 0 && i % 30 == 0 ? "=\r\n" : "").append((char) ('a' + i % 26));
            }
            quoted(due.toString().replace("=\r\n", ""), due.toString());
        }
        for (String blank : new String[] {" ", "\t"}) {
            quoted("a".repeat(28) + blank + "bc", "a".repeat(28) + blank + "b=\r\nc");
            quoted("a".repeat(29) + blank + "bc", "a".repeat(29) + blank + "=\r\nbc");
            quoted("a".repeat(30) + blank + "bc", "a".repeat(30) + "=\r\n" + blank + "bc");
        }
    }

    private static void quotedEscapedPlaces() {
        CHECKS.of("before that which would be behind the 30th place of a line, \"=\" and CR LF");
        for (int before = 25; before <= 31; before++) {
            String line = "a".repeat(before);
            String due = before <= 27 ? line + "=3D"
                    : before <= 30 ? line + "=\r\n=3D" : "a".repeat(30) + "=\r\na=3D";
            quoted(line + "=3D", due);
            quoted(line + "=3D\r\nb", due + "\r\nb");
        }
        quoted("=00".repeat(9), "=00".repeat(9));
        quoted("=00".repeat(10), "=00".repeat(10));
        quoted("=00".repeat(11), "=00".repeat(10) + "=\r\n=00");
        quoted("=00".repeat(10) + "b", "=00".repeat(10) + "=\r\nb");
        quoted("=00".repeat(21), "=00".repeat(10) + "=\r\n" + "=00".repeat(10) + "=\r\n=00");
        quoted("a" + "=00".repeat(10), "a" + "=00".repeat(9) + "=\r\n=00");
        quoted("a".repeat(27) + "=20\r\n", "a".repeat(27) + "=20\r\n");
        quoted("a".repeat(28) + "=20\r\n", "a".repeat(28) + "=\r\n=20\r\n");
        quoted("a".repeat(28) + "=20b", "a".repeat(28) + " b");
    }

    private static void quotedPlacesBeforeLineEnds() {
        CHECKS.of("CR LF as it is; ..; before that which would be behind the 30th place of a line, \"=\" and CR LF");
        for (int size = 28; size <= 30; size++) {
            String line = "a".repeat(size);
            quoted(line + "\r\n", line + "\r\n");
            quoted(line + "\r\n\r\nb", line + "\r\n\r\nb");
        }
        quoted("a".repeat(31) + "\r\n", "a".repeat(30) + "=\r\na\r\n");
        quoted("a".repeat(30) + "=0D", "a".repeat(30) + "=\r\n=0D");
        quoted("a".repeat(30) + "=0A", "a".repeat(30) + "=\r\n=0A");
        quoted("=00".repeat(10) + "\r\n", "=00".repeat(10) + "\r\n");
    }

    private static void quotedPlacesOfEachLine() {
        CHECKS.of("the 30th place of a line");
        String thirty = "a".repeat(30);
        quoted("b\r\n" + thirty, "b\r\n" + thirty);
        quoted("b\r\n" + thirty + "c", "b\r\n" + thirty + "=\r\nc");
        quoted(thirty + "\r\n" + thirty + "\r\n" + thirty + "c", thirty + "\r\n" + thirty + "\r\n" + thirty + "=\r\nc");
        quoted(thirty + "b\r\n" + thirty, thirty + "=\r\nb\r\n" + thirty);
        quoted("b=\n" + "a".repeat(29) + "=\nc", "b" + "a".repeat(29) + "=\r\nc");
    }
}
