/** The boundary cases of the terms MESSAGE, LINE, ENTITY, FIELDS, NAME and VALUE, a method for each sentence. */
final class BoundsOfFieldsTest {
    private static final String MULTI = "Content-Type:multipart/x;boundary=q\n\n";
    private static final Checks CHECKS = new Checks();

    private BoundsOfFieldsTest() {
    }

    public static void main(String[] args) {
        messageSize();
        messageBytes();
        blanksThatGoOn();
        blanksRoundValues();
        linesUpToTheEnd();
        crBeforeLf();
        lastLineWithoutEnd();
        linesEndWithTheRange();
        emptyTextEndsFields();
        nameBytes();
        nameSizes();
        colonBehindName();
        blankGoesOn();
        anyOtherLine();
        goesOnWithNoField();
        ninthField();
        valuesOfLines();
        valuesWithoutBlanks();
        capitalLetters();
        CHECKS.end();
    }

    /** The fields, where the body begins, and that all from there is the content. */
    private static void fields(String message, String want, int body) {
        MailTree x = Mail.read(message);
        CHECKS.same("fields of " + message, Mail.fields(x, 0), want);
        CHECKS.same("body of " + message, x.look(0, Mail.BODY), body);
        CHECKS.same("content of " + message, Mail.content(x, 0), message.substring(body));
    }

    /** The same of the one part of a multipart; the body's place is counted from the part's beginning. */
    private static void fieldsOfPart(String part, String behind, String want, int body) {
        MailTree x = Mail.read(MULTI + "--q\n" + part + behind);
        int begin = MULTI.length() + 4;
        CHECKS.same("fields of part " + part, Mail.fields(x, 1), want);
        CHECKS.same("places of part " + part, Mail.places(x, 1),
                begin + "," + (begin + body) + "," + (begin + part.length()));
        CHECKS.same("content of part " + part, Mail.content(x, 1), part.substring(body));
    }

    private static boolean isBlank(int b) {
        return b == 32 || b == 9;
    }

    private static boolean isNameByte(int b) {
        return b >= 33 && b <= 126 && b != ':';
    }

    private static void messageSize() {
        CHECKS.of("A MESSAGE is at most 320 bytes");
        MailTree x = new MailTree();
        for (int size = 1; size <= 322; size++) {
            CHECKS.same("byte number " + size, x.feed('x', 1), size <= 320);
        }
        for (int size = 318; size <= 320; size++) {
            MailTree y = Mail.read("x".repeat(size));
            CHECKS.same("end of " + size, y.look(0, Mail.END), size);
            CHECKS.same("content of " + size, Mail.content(y, 0), "x".repeat(size));
            CHECKS.same("value of " + size, Mail.read("A:" + "x".repeat(size - 2)).length(0, 0, 1), size - 2);
            CHECKS.same("lines of " + size, Mail.read("\n".repeat(size)).look(0, Mail.CONTENT), size - 1);
        }
    }

    private static void messageBytes() {
        CHECKS.of("A MESSAGE is .. bytes, 0 .. 255.");
        StringBuilder all = new StringBuilder();
        for (int b = 0; b <= 255; b++) {
            all.append((char) b);
        }
        CHECKS.same("all bytes", Mail.content(Mail.read("\n" + all), 0), all.toString());
        MailTree x = new MailTree();
        x.feed(0xFFFFFFFF_FFFFFF00L, 1);
        x.feed(0x7FFFFFFF_FFFFFFFFL, 1);
        x.read();
        CHECKS.same("lowest bytes alone", Mail.content(x, 0), "\u0000\u00ff");
    }

    private static void blanksThatGoOn() {
        CHECKS.of("BLANKS are 32 and TAB.");
        for (int b = 0; b <= 255; b++) {
            String line = (char) b + "c";
            if (isBlank(b)) {
                fields("A:b\n" + line, "A=b" + line + ";", 6);
            } else {
                fields("A:b\n" + line, "A=b;", b == '\n' ? 5 : 4);
            }
        }
    }

    private static void blanksRoundValues() {
        CHECKS.of("BLANKS are 32 and TAB.");
        for (int b = 0; b <= 255; b++) {
            if (b != '\n') {
                String round = String.valueOf((char) b);
                fields("A:" + round + "c" + round, isBlank(b) ? "A=c;" : "A=" + round + "c" + round + ";", 5);
            }
        }
    }

    private static void linesUpToTheEnd() {
        CHECKS.of("A LINE is the bytes up to and with the next LF, or up to the end");
        fields("A:b", "A=b;", 3);
        fields("A:b\n", "A=b;", 4);
        fields("A:b\n\n", "A=b;", 5);
        fields("A:b\n\nx", "A=b;", 5);
        fields("A:b\nC:d", "A=b;C=d;", 7);
        fields("A:b\n c", "A=b c;", 6);
        fields("A:b\n ", "A=b;", 5);
        fields("A:b\nc", "A=b;", 4);
        fields("A:b\u000bC:d\u0085E:f\fG:h", "A=b\u000bC:d\u0085E:f\fG:h;", 15);
        fields("", "", 0);
    }

    private static void crBeforeLf() {
        CHECKS.of("its TEXT is what stands before that LF, without a CR right before it");
        fields("A:b\n\nx", "A=b;", 5);
        fields("A:b\r\n\r\nx", "A=b;", 7);
        fields("A:b\r\r\n\n", "A=b\r;", 7);
        fields("A:b\r\r\r\n\n", "A=b\r\r;", 8);
        fields("A:b\r \n\n", "A=b\r;", 7);
        fields("A:\rb\n\n", "A=\rb;", 6);
        fields("A:\r\n\n", "A=;", 5);
        fields("A:\r\r\n\n", "A=\r;", 6);
        fields("A:b\n\r\nx", "A=b;", 6);
        fields("A:b\n\r\r\nx", "A=b;", 4);
        fields("A:b\n\rx\n", "A=b;", 4);
        fields("A:b\n \r\n\n", "A=b;", 8);
        fields("A:b\n\r", "A=b;", 4);
    }

    private static void lastLineWithoutEnd() {
        CHECKS.of("LF and this CR are the line's END; the last line may have none");
        fields("A:b\r", "A=b\r;", 4);
        fields("A:b \r", "A=b \r;", 5);
        fields("A:b\n c\r", "A=b c\r;", 7);
        fields("\r", "", 0);
        fields("A:b\n\n\r", "A=b;", 5);
        fields("\n", "", 1);
        fields("\r\n", "", 2);
        fieldsOfPart("A:b\r\n--q--\r", "", "A=b;", 5);
        fieldsOfPart("A:b\n", "", "A=b;", 4);
    }

    private static void linesEndWithTheRange() {
        CHECKS.of("lines end at the range's end at the latest");
        for (String mark : new String[] {"--q", "--q--"}) {
            fieldsOfPart("A:b", "\n" + mark, "A=b;", 3);
            fieldsOfPart("A:b", "\r\n" + mark, "A=b;", 3);
            fieldsOfPart("A:b\r", "\r\n" + mark, "A=b\r;", 4);
            fieldsOfPart("A:b\n c ", "\n" + mark, "A=b c;", 7);
            fieldsOfPart("A:", "\n" + mark, "A=;", 2);
            fieldsOfPart("A", "\n" + mark, "", 0);
            fieldsOfPart("\r", "\r\n" + mark, "", 0);
            fieldsOfPart("A:b\n\r", "\r\n" + mark, "A=b;", 4);
            fieldsOfPart("A:b\n", "\n" + mark, "A=b;", 4);
            fieldsOfPart("A:b\n\n", "\n" + mark, "A=b;", 5);
            fieldsOfPart("", "\n" + mark, "", 0);
            fieldsOfPart("", "\r\n" + mark, "", 0);
        }
    }

    private static void emptyTextEndsFields() {
        CHECKS.of("A line whose text is empty ends the FIELDS; the BODY begins behind it.");
        fields("\nA:b\n", "", 1);
        fields("\r\nA:b\n", "", 2);
        fields("\n\nA:b\n", "", 1);
        fields("A:b\n\nC:d\n", "A=b;", 5);
        fields("A:b\r\n\r\nC:d\r\n", "A=b;", 7);
        fields("A:b\n \nC:d\n", "A=b;C=d;", 10);
        fields("A:b\n\t\r\nC:d\n", "A=b;C=d;", 11);
        fields("A:b\n\n", "A=b;", 5);
    }

    private static void nameBytes() {
        CHECKS.of("a NAME, one or more bytes 33 .. 126 but \":\", and a \":\" behind it, begins a field");
        for (int b = 0; b <= 255; b++) {
            String c = String.valueOf((char) b);
            int body = b == '\n' ? 1 : 0;
            if (isNameByte(b)) {
                fields(c + ":v", c + "=v;", 3);
                fields(c + "ac:v", c + "ac=v;", 5);
                fields("a" + c + "c:v", "a" + c + "c=v;", 5);
                fields("ac" + c + ":v", "ac" + c + "=v;", 5);
            } else {
                fields(c + ":v", "", body);
                fields(c + "ac:v", "", body);
            }
            if (!isNameByte(b) && b != ':') {
                fields("a" + c + "c:v", "", 0);
                fields("ac" + c + ":v", "", 0);
            }
        }
    }

    private static void nameSizes() {
        CHECKS.of("a NAME, one or more bytes");
        fields(":v\n\n", "", 0);
        fields("::\n\n", "", 0);
        fields("a:v\n\n", "a=v;", 5);
        fields("ab:v\n\n", "ab=v;", 6);
        fields("a:b:c\n\n", "a=b:c;", 7);
        for (int size = 316; size <= 319; size++) {
            fields("n".repeat(size) + ":", "n".repeat(size) + "=;", size + 1);
        }
        fields("n".repeat(320), "", 0);
        CHECKS.same("length of the longest name", Mail.read("n".repeat(319) + ":").length(0, 0, 0), 319);
    }

    private static void colonBehindName() {
        CHECKS.of("a NAME .. and a \":\" behind it, begins a field");
        fields("a", "", 0);
        fields("a:", "a=;", 2);
        fields("a :b", "", 0);
        fields("a\t:b", "", 0);
        fields("a\n:b", "", 0);
        fields("a\n :b", "", 0);
        fields("a:b\nc\n:d", "a=b;", 4);
        fieldsOfPart("a", "\n--q\n:", "", 0);
        MailTree cut = Mail.read(MULTI + "--q\nab\n--q\n:c\n--q--");
        CHECKS.same("a name cut off by a part's end", Mail.content(cut, 1), "ab");
    }

    private static void blankGoesOn() {
        CHECKS.of("one whose text begins with a blank goes on with the field before");
        fields("A:b\n c\n\n", "A=b c;", 8);
        fields("A:b\n\tc\n\n", "A=b\tc;", 8);
        fields("A:b\n \n\n", "A=b;", 7);
        fields("A:b\n \n c\n\n", "A=b  c;", 10);
        fields("A:b\n C:d\n\n", "A=b C:d;", 10);
        fields("A:b\nC:d\n e\nF:g\n", "A=b;C=d e;F=g;", 15);
        fields("A:" + "\n ".repeat(159), "A=;", 320);
        fields("A:" + "\n x".repeat(106), "A=" + "x x ".repeat(53).trim() + ";", 320);
    }

    private static void anyOtherLine() {
        CHECKS.of("At any other line .. the body begins.");
        fields("hello\nA:b\n", "", 0);
        fields("A:b\nhello\nC:d\n", "A=b;", 4);
        fields("A:b\n:c\nC:d\n", "A=b;", 4);
        fields("A:b\n\u0080:c\n\n", "A=b;", 4);
        fields("A:b\n--\n", "A=b;", 4);
        fields("A:b\n c\nd\n e\n", "A=b c;", 7);
    }

    private static void goesOnWithNoField() {
        CHECKS.of("At .. one that goes on with no field .. the body begins.");
        fields(" a\nA:b\n", "", 0);
        fields("\ta", "", 0);
        fields(" ", "", 0);
        fields(" \n\nx", "", 0);
        fields(" A:b", "", 0);
        fieldsOfPart(" a", "\n--q", "", 0);
        fieldsOfPart("\tA:b\n\nx", "\n--q--", "", 0);
    }

    private static void ninthField() {
        CHECKS.of("At .. a ninth field, the body begins.");
        for (int count = 6; count <= 10; count++) {
            int kept = Math.min(8, count);
            fields("a:1\n".repeat(count), "a=1;".repeat(kept), 4 * kept);
            fields("a:1\n".repeat(count) + "\nx", "a=1;".repeat(kept), count > 8 ? 32 : 4 * count + 1);
            fieldsOfPart("a:\n".repeat(count), "\n--q--", "a=;".repeat(kept), 3 * kept);
        }
        fields("a:1\n".repeat(8) + " 2\n", "a=1;".repeat(7) + "a=1 2;", 35);
        fields("a:1\n".repeat(8) + " 2\n\t3\nb:4\n 5\n", "a=1;".repeat(7) + "a=1 2\t3;", 38);
        fields("a:1\n".repeat(8) + "b:4\n\nx", "a=1;".repeat(8), 32);
        fields("a:1\n".repeat(8) + "hello\n", "a=1;".repeat(8), 32);
        fields("a:1\n".repeat(8), "a=1;".repeat(8), 32);
        MailTree x = Mail.read("a:\n".repeat(7) + MULTI + "--q\n" + "b:\n".repeat(9) + "\n--q\n" + "c:\n".repeat(8));
        CHECKS.same("eight of each entity", Mail.fields(x, 1) + Mail.fields(x, 2), "b=;".repeat(8) + "c=;".repeat(8));
        MailTree type = Mail.read("a:\n".repeat(8) + MULTI + "--q\n");
        CHECKS.same("a ninth field has no type", type.look(0, Mail.KIND), 0);
    }

    private static void valuesOfLines() {
        CHECKS.of("what stands behind the \":\", and the texts of the lines that go on, one behind the other");
        fields("A:b", "A=b;", 3);
        fields("A::", "A=:;", 3);
        fields("A:b\r\n c\r\n d\r\n\r\n", "A=b c d;", 15);
        fields("A:b\r\r\n c\r\r\n\n", "A=b\r c\r;", 12);
        fields("A:b\n c\r", "A=b c\r;", 7);
        fields("A:b \n  c \n\td\n", "A=b   c \td;", 13);
        fields("A:\n b", "A=b;", 5);
    }

    private static void valuesWithoutBlanks() {
        CHECKS.of("without the blanks at its beginning and end");
        fields("A:", "A=;", 2);
        fields("A: ", "A=;", 3);
        fields("A: \t \n", "A=;", 6);
        fields("A: \n \n\t\n", "A=;", 8);
        fields("A:b", "A=b;", 3);
        fields("A: b", "A=b;", 4);
        fields("A:b ", "A=b;", 4);
        fields("A:\t b \t", "A=b;", 7);
        fields("A: b\t c ", "A=b\t c;", 8);
        fields("A: \n b \n ", "A=b;", 9);
        fields("A:b\n \n ", "A=b;", 7);
        fields("A:" + " ".repeat(318), "A=;", 320);
        fields("A:" + " ".repeat(317) + "b", "A=b;", 320);
        fields("A:b" + " ".repeat(317), "A=b;", 320);
        CHECKS.same("length of a value of blanks", Mail.read("A: \t\n").length(0, 0, 1), 0);
    }

    /** The kind of a message/rfc822 with this name of its field. */
    private static int kindBy(String name) {
        return Mail.read(name + ":message/rfc822\n").look(0, Mail.KIND);
    }

    private static void capitalLetters() {
        CHECKS.of("(Names, types, attributes and encodings are compared without regard to capital letters.)");
        String name = "content-type";
        for (int i = 0; i < name.length(); i++) {
            String capital = name.substring(0, i) + name.substring(i, i + 1).toUpperCase() + name.substring(i + 1);
            CHECKS.same("kind by " + capital, kindBy(capital), 2);
            for (int b = 33; b <= 126; b++) {
                String other = name.substring(0, i) + (char) b + name.substring(i + 1);
                boolean same = other.equalsIgnoreCase(name);
                if (b != ':') {
                    CHECKS.same("kind by " + other, kindBy(other), same ? 2 : 0);
                }
            }
        }
        CHECKS.same("no shorter name", kindBy("content-typ"), 0);
        CHECKS.same("no longer name", kindBy("content-typee"), 0);
        CHECKS.same("types", Mail.read("a:\nCONTENT-TYPE:MESSAGE/RFC822\n").look(0, Mail.KIND), 2);
        CHECKS.same("attributes", Mail.read("Content-Type:mULTIPART/x;bOUNDARy=Q\n").boundary(0, 0), (int) 'Q');
        CHECKS.same("encodings", Mail.read("content-TRANSFER-encoding:bASE64\n").look(0, Mail.ENCODING), 1);
        CHECKS.same("a name is kept as it is", Mail.name(Mail.read("CoNtEnT-tYpE:x\n"), 0, 0), "CoNtEnT-tYpE");
    }
}
