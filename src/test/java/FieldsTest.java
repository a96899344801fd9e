/** Promises 4, 6, 7 and 8: how fields are read, and what look, length and letter tell of them. */
final class FieldsTest {
    private static final Checks CHECKS = new Checks();

    private FieldsTest() {
    }

    public static void main(String[] args) {
        namesAndValues();
        linesThatGoOn();
        whereTheBodyBegins();
        atMostEightFields();
        lineEnds();
        wrongLooks();
        wrongLengthsAndLetters();
        CHECKS.end();
    }

    private static void fields(String message, String want, int body) {
        MailTree x = Mail.read(message);
        CHECKS.same("fields of " + message, Mail.fields(x, 0), want);
        CHECKS.same("body of " + message, x.look(0, Mail.BODY), body);
        CHECKS.same("content of " + message, Mail.content(x, 0), message.substring(body));
    }

    private static void namesAndValues() {
        fields("a:b\n\nc", "a=b;", 5);
        fields("Aa: b c \t\n\nx", "Aa=b c;", 11);
        fields("A:\t \t\n\n", "A=;", 7);
        fields("A::b\n\n", "A=:b;", 6);
        fields("!~\"(=:\u0000\u00ff\n\n", "!~\"(==\u0000\u00ff;", 10);
        fields("A:b\nA:c\n\n", "A=b;A=c;", 9);
        fields("A:b", "A=b;", 3);
        fields("A:", "A=;", 2);
    }

    private static void linesThatGoOn() {
        fields("A: b\r\n c\r\n\td\r\n\r\n", "A=b c\td;", 16);
        fields("A:\n b\n\n", "A=b;", 7);
        fields("A:b\n \n\t\n\n", "A=b;", 9);
        fields("A:b \n \n c\n\n", "A=b   c;", 11);
        fields("A:b\n c:d\nE:f\n g", "A=b c:d;E=f g;", 15);
        fields(" a:b\n\n", "", 0);
        fields("\ta", "", 0);
        fields("A:\r\n \r\n\r\nx", "A=;", 9);
    }

    private static void whereTheBodyBegins() {
        fields("", "", 0);
        fields("\n", "", 1);
        fields("\r\n", "", 2);
        fields("\n\nA:b\n", "", 1);
        fields("A:b\n", "A=b;", 4);
        fields("A:b\nhello\nC:d\n", "A=b;", 4);
        fields(":b\n\n", "", 0);
        fields("A :b\n\n", "", 0);
        fields("A\n\n", "", 0);
        fields("A\u007f:b\n\n", "", 0);
        fields("A\u0080:b\n", "", 0);
        fields("A:b\n\u0000C:d\n", "A=b;", 4);
    }

    private static void atMostEightFields() {
        fields("a:1\nb:2\nc:3\nd:4\ne:5\nf:6\ng:7\nh:8\n\ni:9\n", "a=1;b=2;c=3;d=4;e=5;f=6;g=7;h=8;", 33);
        fields("a:1\nb:2\nc:3\nd:4\ne:5\nf:6\ng:7\nh:8\n 9\ni:9\n\n", "a=1;b=2;c=3;d=4;e=5;f=6;g=7;h=8 9;", 35);
        fields("a:\nb:\nc:\nd:\ne:\nf:\ng:\nh:\ni:\n\nx", "a=;b=;c=;d=;e=;f=;g=;h=;", 24);
        CHECKS.same("eight fields", Mail.read("a:\nb:\nc:\nd:\ne:\nf:\ng:\nh:\ni:\n").look(0, Mail.FIELDS), 8);
    }

    private static void lineEnds() {
        fields("A:b\r\r\n\r\nx", "A=b\r;", 8);
        fields("A:b\rC:d\n\n", "A=b\rC:d;", 9);
        fields("A:b\r\n\r", "A=b;", 5);
        fields("A:b\r", "A=b\r;", 4);
        fields("A:b\n\r\r\n", "A=b;", 4);
        fields("A:b \r", "A=b \r;", 5);
    }

    private static void wrongLooks() {
        MailTree x = Mail.read("A: b\n\nxyz");
        int[] due = {0, 1, -1, 1, 0, 3, 0, 0, 6, 9};
        for (int what = 0; what < due.length; what++) {
            CHECKS.same("look(0, " + what + ")", x.look(0, what), due[what]);
        }
        for (int what : new int[] {-1, 10, Integer.MIN_VALUE, Integer.MAX_VALUE}) {
            CHECKS.badArgument("look(0, " + what + ")", () -> x.look(0, what));
            CHECKS.noElement("look(1, " + what + ")", () -> x.look(1, what));
        }
        for (int e : new int[] {-1, 1, 15, 16, Integer.MIN_VALUE, Integer.MAX_VALUE}) {
            CHECKS.noElement("look(" + e + ", 0)", () -> x.look(e, 0));
        }
    }

    private static void wrongLengthsAndLetters() {
        MailTree x = Mail.read("Abc: de\nF:\n\nxyz");
        CHECKS.same("length of a name", x.length(0, 0, 0), 3);
        CHECKS.same("length of a value", x.length(0, 0, 1), 2);
        CHECKS.same("length of an empty value", x.length(0, 1, 1), 0);
        CHECKS.same("last letter of a name", x.letter(0, 0, 0, 2), (int) 'c');
        CHECKS.same("last letter of a value", x.letter(0, 0, 1, 1), (int) 'e');
        CHECKS.same("a letter over 127", Mail.read("A:\u00e9\n\n").letter(0, 0, 1, 0), 0xe9);
        CHECKS.noElement("letter behind a name", () -> x.letter(0, 0, 0, 3));
        CHECKS.noElement("letter behind a value", () -> x.letter(0, 0, 1, 2));
        CHECKS.noElement("letter before a value", () -> x.letter(0, 0, 1, -1));
        CHECKS.noElement("letter far behind", () -> x.letter(0, 0, 1, Integer.MAX_VALUE));
        CHECKS.noElement("letter of an empty value", () -> x.letter(0, 1, 1, 0));
        for (int what : new int[] {-1, 2, Integer.MIN_VALUE, Integer.MAX_VALUE}) {
            CHECKS.badArgument("length, what " + what, () -> x.length(0, 0, what));
            CHECKS.badArgument("letter, what " + what, () -> x.letter(0, 0, what, 0));
            CHECKS.badArgument("letter behind, what " + what, () -> x.letter(0, 0, what, 99));
            CHECKS.noElement("length of no field, what " + what, () -> x.length(0, 2, what));
        }
        for (int bad : new int[] {-1, 2, 8, 16, Integer.MIN_VALUE, Integer.MAX_VALUE}) {
            CHECKS.noElement("length of field " + bad, () -> x.length(0, bad, 0));
            CHECKS.noElement("letter of field " + bad, () -> x.letter(0, bad, 1, 0));
            CHECKS.noElement("length in entity " + bad, () -> x.length(bad, 0, 0));
            CHECKS.noElement("letter in entity " + bad, () -> x.letter(bad, 0, 0, 0));
        }
    }
}
