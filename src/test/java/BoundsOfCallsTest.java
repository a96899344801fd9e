import java.util.function.Function;

/** The boundary cases in the sections of promises 1 to 13, a method for each sentence. */
final class BoundsOfCallsTest {
    private static final int MIN = Integer.MIN_VALUE;
    private static final int MAX = Integer.MAX_VALUE;
    private static final String NO_ELEMENT = "NoSuchElementException";
    private static final String BAD_ARGUMENT = "IllegalArgumentException";
    private static final String TOO_MUCH = "UnsupportedOperationException";
    private static final String MULTI = "Content-Type:multipart/x;boundary=qr\n";
    /** Fields Abc and F, content xyz. */
    private static final String LEAF = "Abc: de\nF:\n\nxyz";
    private static final Checks CHECKS = new Checks();

    private BoundsOfCallsTest() {
    }

    public static void main(String[] args) {
        newObject();
        feedLowestFirst();
        feedCounts();
        feedRoom();
        clearTellsHowMany();
        clearKeepsWhatWasRead();
        readTellsHowMany();
        readsOneBehindAnother();
        readsNoFieldOfTheMessageBefore();
        entitiesTellsWhatWasRead();
        lookAtTheWhole();
        lookAtNoEntity();
        lookForAnotherWhat();
        lengthOfNone();
        lengthOfAnotherWhat();
        letterOfNone();
        letterOfAnotherWhat();
        contentOfNone();
        boundaryBehindIt();
        boundaryOfNoMultipart();
        boundaryOfNoEntity();
        writeWithNothingRead();
        writeOfTooMuch();
        writeOfTooMuchInParts();
        writeKeepsWhatWasWritten();
        writtenOfNone();
        againHasRoom();
        againOfNothing();
        calls512();
        CHECKS.end();
    }

    private static void newObject() {
        CHECKS.of("No bytes; nothing read, nothing written.");
        CHECKS.same("bytes", new MailTree().clear(), 0);
        CHECKS.same("entities", new MailTree().entities(), 0);
        CHECKS.same("written", new MailTree().written(0), -1);
        CHECKS.outcome("write", new MailTree()::write, "IllegalStateException");
        CHECKS.same("again", new MailTree().again(), 0);
        MailTree x = new MailTree();
        CHECKS.same("read", x.read(), 1);
        CHECKS.same("places of what is read", Mail.places(x, 0), "0,0,0");
        MailTree full = new MailTree();
        CHECKS.same("room for 320", Mail.feed(full, "x".repeat(320)), true);
        CHECKS.same("a second object has none of them", new MailTree().clear(), 0);
    }

    private static void feedLowestFirst() {
        CHECKS.of("Puts the lowest n bytes of v (the lowest first) behind the message: true");
        String bytes = "\u0081\u0092\u00a3\u00b4\u00c5\u00d6\u00e7\u00f8";
        for (int n = 1; n <= 8; n++) {
            MailTree x = Mail.fed("\u00ff");
            CHECKS.same("feed of " + n, x.feed(0xF8E7D6C5B4A39281L, n), true);
            x.read();
            CHECKS.same("message after feed of " + n, Mail.content(x, 0), "\u00ff" + bytes.substring(0, n));
        }
    }

    private static void feedCounts() {
        CHECKS.of("false when n is not 1 .. 8");
        for (int n : new int[] {MIN, MIN + 1, -8, -1, 0, 9, 10, 16, 256 + 1, MAX - 1, MAX}) {
            MailTree x = Mail.fed("\u00ff");
            CHECKS.same("feed of " + n, x.feed(0x4142434445464748L, n), false);
            x.read();
            CHECKS.same("message after feed of " + n, Mail.content(x, 0), "\u00ff");
        }
        for (int n : new int[] {1, 2, 7, 8}) {
            MailTree x = Mail.fed("\u00ff");
            CHECKS.same("feed of " + n, x.feed(0x4142434445464748L, n), true);
            CHECKS.same("bytes after feed of " + n, x.clear(), 1 + n);
        }
    }

    private static void feedRoom() {
        CHECKS.of("false when .. there would be more than 320");
        for (int size = 310; size <= 320; size++) {
            for (int n = 1; n <= 8; n++) {
                String before = "\u00ff".repeat(size);
                MailTree x = Mail.fed(before);
                boolean room = size + n <= 320;
                CHECKS.same("feed of " + n + " behind " + size, x.feed(-2L, n), room);
                x.read();
                String due = room ? before + "\u00fe" + "\u00ff".repeat(n - 1) : before;
                CHECKS.same("message after feed of " + n + " behind " + size, Mail.content(x, 0), due);
            }
        }
        MailTree x = Mail.fed("\u00ff".repeat(318));
        CHECKS.same("three behind 318", x.feed(0L, 3), false);
        CHECKS.same("what is refused takes no room", x.feed(0L, 2), true);
        CHECKS.same("a full message", x.feed(0L, 1), false);
        CHECKS.same("no bytes of the refused ones", x.clear(), 320);
        CHECKS.same("room after clear", Mail.feed(x, "x".repeat(320)), true);
        CHECKS.same("no room behind it", x.feed(0L, 1), false);
    }

    private static void clearTellsHowMany() {
        CHECKS.of("No bytes any more: how many there were.");
        for (int size : new int[] {0, 1, 2, 319, 320}) {
            MailTree x = Mail.fed("x".repeat(size));
            CHECKS.same("clear of " + size, x.clear(), size);
            CHECKS.same("clear behind it", x.clear(), 0);
            x.read();
            CHECKS.same("what is read then", Mail.places(x, 0), "0,0,0");
        }
    }

    private static void clearKeepsWhatWasRead() {
        CHECKS.of("(What was read stays.)");
        MailTree x = Mail.read(MULTI + "\n--qr\n" + LEAF);
        String before = told(x);
        x.clear();
        CHECKS.same("after clear", told(x), before);
        Mail.feed(x, "z".repeat(320));
        CHECKS.same("after other bytes", told(x), before);
        CHECKS.outcome("what is written", x::write, 76);
        MailTree nothing = Mail.fed("abc");
        nothing.clear();
        CHECKS.same("nothing read stays nothing", nothing.entities(), 0);
    }

    /** All that is told of the entities. */
    private static String told(MailTree x) {
        StringBuilder b = new StringBuilder();
        for (int e = 0; e < x.entities(); e++) {
            for (int what = 0; what <= 9; what++) {
                b.append(x.look(e, what)).append(' ');
            }
            b.append(Mail.fields(x, e)).append(Mail.boundary(x, e)).append('|').append(Mail.content(x, e));
        }
        return b.toString();
    }

    private static void readTellsHowMany() {
        CHECKS.of("Reads the message: how many entities.");
        CHECKS.same("of no bytes", new MailTree().read(), 1);
        CHECKS.same("of 320 bytes", Mail.fed("\n".repeat(320)).read(), 1);
        for (int parts = 0; parts <= 17; parts++) {
            MailTree x = Mail.fed(MULTI + "\n" + "--qr\n".repeat(parts));
            CHECKS.same("with " + parts + " parts", x.read(), Math.min(16, 1 + parts));
            CHECKS.same("a second time", x.read(), Math.min(16, 1 + parts));
        }
        MailTree x = Mail.read(MULTI + "\n--qr\n" + LEAF);
        x.clear();
        CHECKS.same("of no bytes behind others", x.read(), 1);
        CHECKS.same("nothing of the others", told(x), told(Mail.read("")));
    }

    private static void readsOneBehindAnother() {
        CHECKS.of("Reads the message");
        String encoded = "Content-Transfer-Encoding:base64\n";
        String[] messages = {"", "\n", "x", LEAF, encoded + "\nQUJD", "a:b\n".repeat(9), encoded + MULTI,
            encoded + MULTI + "\n--qr\n" + encoded + "\nQUJD\n--qr--", MULTI + "\n" + "--qr\n".repeat(16),
            MULTI + "\n--qr\n" + MULTI, MULTI + "\n--qr\n" + LEAF + "\n--qr\n" + LEAF,
            "Content-Type:message/rfc822\n\n" + MULTI, encoded + "Content-Type:message/rfc822\n\n" + LEAF};
        for (String before : messages) {
            for (String message : messages) {
                MailTree x = Mail.read(before);
                x.clear();
                Mail.feed(x, message);
                MailTree alone = Mail.read(message);
                CHECKS.same("entities of " + message + " behind " + before, x.read(), alone.entities());
                CHECKS.same("what is told of " + message + " behind " + before, told(x), told(alone));
                CHECKS.outcome("write of " + message + " behind " + before, x::write, alone.write());
                CHECKS.same("written of " + message + " behind " + before, Mail.written(x), Mail.written(alone));
            }
        }
    }

    /** Where the first message has its second field's name and value, the second one has the same words. */
    private static void readsNoFieldOfTheMessageBefore() {
        CHECKS.of("Reads the message");
        MailTree x = Mail.read("A:" + "\r\n ".repeat(8) + "\r\nContent-Type:message/rfc822\n");
        CHECKS.same("kind of the first message", x.look(0, Mail.KIND), 2);
        x.clear();
        Mail.feed(x, "A:12345678message/rfc822\n\n..Content-Type:");
        CHECKS.same("entities of the second message", x.read(), 1);
        CHECKS.same("kind of the second message", x.look(0, Mail.KIND), 0);
        CHECKS.same("fields of the second message", Mail.fields(x, 0), "A=12345678message/rfc822;");
    }

    private static void entitiesTellsWhatWasRead() {
        CHECKS.of("How many entities were read.");
        MailTree x = Mail.fed(MULTI + "\n--qr\n");
        CHECKS.same("before read", x.entities(), 0);
        x.read();
        CHECKS.same("after read", x.entities(), 2);
        Mail.feed(x, "--qr\n");
        CHECKS.same("after feed", x.entities(), 2);
        x.write();
        x.clear();
        x.again();
        CHECKS.same("after write, clear and again", x.entities(), 2);
        x.clear();
        x.read();
        CHECKS.same("of no bytes", x.entities(), 1);
    }

    private static void lookAtTheWhole() {
        CHECKS.of("2 what it is part of (-1 for the whole)");
        MailTree x = Mail.read(MULTI + "\n" + "--qr\n".repeat(16));
        CHECKS.same("the whole", x.look(0, Mail.PARENT), -1);
        CHECKS.same("the first part", x.look(1, Mail.PARENT), 0);
        CHECKS.same("the last part", x.look(15, Mail.PARENT), 0);
        CHECKS.same("the whole, a leaf", Mail.read("").look(0, Mail.PARENT), -1);
    }

    private static void lookAtNoEntity() {
        CHECKS.of("look: Throws NoSuchElementException when there is none");
        CHECKS.outcome("nothing read", () -> new MailTree().look(0, 0), NO_ELEMENT);
        for (int parts : new int[] {0, 1, 14, 15, 16}) {
            MailTree x = Mail.read(MULTI + "\n" + "--qr\n".repeat(parts));
            int last = Math.min(15, parts);
            CHECKS.outcome("the last of " + parts, () -> x.look(last, Mail.DEPTH), last == 0 ? 1 : 2);
            for (int e : new int[] {MIN, -1, last + 1, last + 2, 17, MAX}) {
                CHECKS.outcome("entity " + e + " with parts " + parts, () -> x.look(e, Mail.DEPTH), NO_ELEMENT);
            }
        }
        MailTree x = Mail.read(MULTI + "\n--qr\n");
        x.clear();
        x.read();
        CHECKS.outcome("one of the message before", () -> x.look(1, 0), NO_ELEMENT);
    }

    private static void lookForAnotherWhat() {
        CHECKS.of("look: IllegalArgumentException for another what");
        MailTree x = Mail.read(LEAF);
        int[] due = {0, 1, -1, 2, 0, 3, 0, 0, 12, 15};
        for (int what = 0; what <= 9; what++) {
            int answer = due[what];
            int number = what;
            CHECKS.outcome("what " + what, () -> x.look(0, number), answer);
        }
        for (int what : new int[] {MIN, -10, -1, 10, 11, MAX}) {
            CHECKS.outcome("what " + what, () -> x.look(0, what), BAD_ARGUMENT);
        }
    }

    private static void lengthOfNone() {
        CHECKS.of("length: Throws NoSuchElementException when there is none");
        CHECKS.outcome("nothing read", () -> new MailTree().length(0, 0, 0), NO_ELEMENT);
        CHECKS.outcome("no fields", () -> Mail.read("").length(0, 0, 0), NO_ELEMENT);
        MailTree x = Mail.read(LEAF);
        CHECKS.outcome("the first field's name", () -> x.length(0, 0, 0), 3);
        CHECKS.outcome("the first field's value", () -> x.length(0, 0, 1), 2);
        CHECKS.outcome("the last field's name", () -> x.length(0, 1, 0), 1);
        CHECKS.outcome("the last field's empty value", () -> x.length(0, 1, 1), 0);
        for (int bad : new int[] {MIN, -1, 2, 3, 8, MAX}) {
            CHECKS.outcome("field " + bad, () -> x.length(0, bad, 0), NO_ELEMENT);
            CHECKS.outcome("field " + bad + "'s value", () -> x.length(0, bad, 1), NO_ELEMENT);
        }
        for (int bad : new int[] {MIN, -1, 1, 2, 16, MAX}) {
            CHECKS.outcome("entity " + bad, () -> x.length(bad, 0, 0), NO_ELEMENT);
        }
        MailTree full = Mail.read("a:\n".repeat(9));
        CHECKS.outcome("the eighth field", () -> full.length(0, 7, 0), 1);
        CHECKS.outcome("a ninth field", () -> full.length(0, 8, 0), NO_ELEMENT);
        MailTree fewer = Mail.read("a:\nb:\n");
        fewer.clear();
        Mail.feed(fewer, "a:\n");
        fewer.read();
        CHECKS.outcome("a field of the message before", () -> fewer.length(0, 1, 0), NO_ELEMENT);
    }

    private static void lengthOfAnotherWhat() {
        CHECKS.of("length: IllegalArgumentException for another what");
        MailTree x = Mail.read(LEAF);
        for (int what : new int[] {MIN, -2, -1, 2, 3, MAX}) {
            CHECKS.outcome("what " + what, () -> x.length(0, 0, what), BAD_ARGUMENT);
            CHECKS.outcome("of the last field, what " + what, () -> x.length(0, 1, what), BAD_ARGUMENT);
        }
    }

    private static void letterOfNone() {
        CHECKS.of("letter: Throws NoSuchElementException when there is none");
        CHECKS.outcome("nothing read", () -> new MailTree().letter(0, 0, 0, 0), NO_ELEMENT);
        CHECKS.outcome("no fields", () -> Mail.read("").letter(0, 0, 0, 0), NO_ELEMENT);
        MailTree x = Mail.read(LEAF);
        CHECKS.outcome("a name's first byte", () -> x.letter(0, 0, 0, 0), (int) 'A');
        CHECKS.outcome("a name's last byte", () -> x.letter(0, 0, 0, 2), (int) 'c');
        CHECKS.outcome("a value's first byte", () -> x.letter(0, 0, 1, 0), (int) 'd');
        CHECKS.outcome("a value's last byte", () -> x.letter(0, 0, 1, 1), (int) 'e');
        for (int i : new int[] {MIN, -1, 3, 4, 320, MAX}) {
            CHECKS.outcome("byte " + i + " of a name", () -> x.letter(0, 0, 0, i), NO_ELEMENT);
        }
        for (int i : new int[] {MIN, -1, 2, 3, 320, MAX}) {
            CHECKS.outcome("byte " + i + " of a value", () -> x.letter(0, 0, 1, i), NO_ELEMENT);
        }
        for (int i : new int[] {MIN, -1, 0, 1, MAX}) {
            CHECKS.outcome("byte " + i + " of an empty value", () -> x.letter(0, 1, 1, i), NO_ELEMENT);
        }
        for (int bad : new int[] {MIN, -1, 2, 8, MAX}) {
            CHECKS.outcome("field " + bad, () -> x.letter(0, bad, 0, 0), NO_ELEMENT);
            CHECKS.outcome("entity " + bad, () -> x.letter(bad, 0, 0, 0), NO_ELEMENT);
        }
    }

    private static void letterOfAnotherWhat() {
        CHECKS.of("letter: IllegalArgumentException for another what");
        MailTree x = Mail.read(LEAF);
        for (int what : new int[] {MIN, -2, -1, 2, 3, MAX}) {
            CHECKS.outcome("what " + what, () -> x.letter(0, 0, what, 0), BAD_ARGUMENT);
            CHECKS.outcome("of the last field, what " + what, () -> x.letter(0, 1, what, 0), BAD_ARGUMENT);
        }
    }

    private static void contentOfNone() {
        CHECKS.of("content: Throws NoSuchElementException when there is none");
        CHECKS.outcome("nothing read", () -> new MailTree().content(0, 0), NO_ELEMENT);
        CHECKS.outcome("an empty content", () -> Mail.read("").content(0, 0), NO_ELEMENT);
        MailTree x = Mail.read(MULTI + "\n--qr\n\nabc\n--qr\n\nd");
        CHECKS.outcome("the first byte", () -> x.content(1, 0), (int) 'a');
        CHECKS.outcome("the last byte", () -> x.content(1, 2), (int) 'c');
        CHECKS.outcome("the only byte", () -> x.content(2, 0), (int) 'd');
        for (int i : new int[] {MIN, -1, 3, 4, 320, MAX}) {
            CHECKS.outcome("byte " + i, () -> x.content(1, i), NO_ELEMENT);
        }
        for (int i : new int[] {MIN, -1, 1, 2, MAX}) {
            CHECKS.outcome("byte " + i + " of one", () -> x.content(2, i), NO_ELEMENT);
            CHECKS.outcome("byte " + i + " of a multipart", () -> x.content(0, i), NO_ELEMENT);
        }
        CHECKS.outcome("the first byte of a multipart", () -> x.content(0, 0), NO_ELEMENT);
        for (int e : new int[] {MIN, -1, 3, 16, MAX}) {
            CHECKS.outcome("entity " + e, () -> x.content(e, 0), NO_ELEMENT);
        }
    }

    private static void boundaryBehindIt() {
        CHECKS.of("Byte i of the boundary of entity e, -1 behind it");
        MailTree x = Mail.read(MULTI);
        CHECKS.outcome("the first byte", () -> x.boundary(0, 0), (int) 'q');
        CHECKS.outcome("the last byte", () -> x.boundary(0, 1), (int) 'r');
        for (int i : new int[] {2, 3, 20, MAX}) {
            CHECKS.outcome("byte " + i, () -> x.boundary(0, i), -1);
        }
        MailTree longest = Mail.read("Content-Type:multipart/x;boundary=12345678901234567890\n");
        CHECKS.outcome("byte 19 of 20", () -> longest.boundary(0, 19), (int) '0');
        CHECKS.outcome("byte 20 of 20", () -> longest.boundary(0, 20), -1);
        MailTree two = Mail.read(MULTI + "\n--qr\nContent-Type:multipart/x;boundary=s\n");
        CHECKS.outcome("behind the first of two", () -> two.boundary(0, 2), -1);
        CHECKS.outcome("the second of two", () -> two.boundary(1, 0), (int) 's');
        CHECKS.outcome("behind the second of two", () -> two.boundary(1, 1), -1);
    }

    private static void boundaryOfNoMultipart() {
        CHECKS.of("-1 .. when it is no MULTIPART");
        String[] heads = {"", "Content-Type:message/rfc822;boundary=q\n", "Content-Type:text/x;boundary=q\n",
            "Content-Type:multipart/x\n", "Content-Type:multipart/x;boundary=\"\"\n"};
        for (String head : heads) {
            MailTree x = Mail.read(head);
            for (int i : new int[] {MIN, -1, 0, 1, 19, 20, MAX}) {
                CHECKS.outcome("byte " + i + " of " + head, () -> x.boundary(0, i), -1);
            }
        }
    }

    private static void boundaryOfNoEntity() {
        CHECKS.of("boundary: Throws NoSuchElementException when there is no such entity.");
        CHECKS.outcome("nothing read", () -> new MailTree().boundary(0, 0), NO_ELEMENT);
        MailTree x = Mail.read(MULTI + "\n--qr\n");
        CHECKS.outcome("the last entity", () -> x.boundary(1, 0), -1);
        for (int e : new int[] {MIN, -1, 2, 3, 15, 16, MAX}) {
            CHECKS.outcome("entity " + e, () -> x.boundary(e, 0), NO_ELEMENT);
            CHECKS.outcome("entity " + e + ", far behind", () -> x.boundary(e, MAX), NO_ELEMENT);
        }
    }

    private static void writeWithNothingRead() {
        CHECKS.of("Throws IllegalStateException when nothing was read");
        MailTree x = new MailTree();
        CHECKS.outcome("a new object", x::write, "IllegalStateException");
        Mail.feed(x, "A:b\n");
        CHECKS.outcome("fed alone", x::write, "IllegalStateException");
        CHECKS.same("nothing was written", x.written(0), -1);
        x.read();
        CHECKS.outcome("read", x::write, 8);
        MailTree empty = new MailTree();
        empty.read();
        CHECKS.outcome("no bytes read", empty::write, 2);
    }

    /** What is written of it are 594 bytes and so many more. */
    private static String quotedPart(int more) {
        return "\u0001".repeat(180) + "a".repeat(more);
    }

    private static void writeOfTooMuch() {
        CHECKS.of("UnsupportedOperationException when it would be more than 700");
        String head = "Content-Transfer-Encoding:quoted-printable\nLonger:" + "x".repeat(40) + "\n\n";
        // The two fields and the empty line behind them, as they are written.
        int heads = 45 + 50 + 2;
        for (int size = 697; size <= 703; size++) {
            MailTree x = Mail.read(head + quotedPart(size - heads - 594));
            CHECKS.outcome("write of " + size, x::write, size <= 700 ? size : TOO_MUCH);
            CHECKS.same("its last byte", x.written(size - 1), size <= 700 ? (int) 'a' : -1);
            CHECKS.same("behind its last byte", x.written(size), -1);
        }
    }

    private static void writeOfTooMuchInParts() {
        CHECKS.of("UnsupportedOperationException when it would be more than 700");
        String head = "Content-Type:multipart/x;boundary=q\n\n--q\nContent-Transfer-Encoding:quoted-printable\n\n";
        // All but the content: the whole's fields, the delimiter, the part's fields, CR LF, the closing one.
        int around = 40 + 5 + 47 + 2 + 7;
        for (int size = 698; size <= 702; size++) {
            MailTree x = Mail.read(head + quotedPart(size - around - 594));
            CHECKS.outcome("write of parts of " + size, x::write, size <= 700 ? size : TOO_MUCH);
            CHECKS.same("its last byte", x.written(size - 1), size <= 700 ? (int) '\n' : -1);
        }
        MailTree far = Mail.read(head + "\u0001".repeat(320 - head.length()));
        CHECKS.outcome("write of far more", far::write, TOO_MUCH);
    }

    private static void writeKeepsWhatWasWritten() {
        CHECKS.of("(what was written before stays)");
        MailTree x = Mail.read("A:b\n\nx");
        x.write();
        x.clear();
        Mail.feed(x, "Content-Transfer-Encoding:quoted-printable\n\n" + "\u0001".repeat(276));
        x.read();
        String before = told(x);
        for (int turn = 0; turn < 2; turn++) {
            CHECKS.outcome("write of too much", x::write, TOO_MUCH);
            CHECKS.same("what was written before", Mail.written(x), "A: b\r\n\r\nx");
        }
        CHECKS.same("what was read", told(x), before);
        CHECKS.same("the message", x.clear(), 320);
        CHECKS.same("again of what was written before", x.again(), 9);
        x.read();
        CHECKS.outcome("write behind it", x::write, 9);
        MailTree none = Mail.read("Content-Transfer-Encoding:quoted-printable\n\n" + "\u0001".repeat(276));
        CHECKS.outcome("too much at first", none::write, TOO_MUCH);
        CHECKS.same("nothing was written before", none.written(0), -1);
        CHECKS.same("again of nothing", none.again(), 0);
    }

    private static void writtenOfNone() {
        CHECKS.of("Byte i of what was written latest, -1 when there is none.");
        MailTree x = Mail.read("A:b\n\nx");
        CHECKS.same("nothing written", x.written(0), -1);
        x.write();
        CHECKS.same("the first byte", x.written(0), (int) 'A');
        CHECKS.same("the last byte", x.written(8), (int) 'x');
        for (int i : new int[] {MIN, -2, -1, 9, 10, 699, 700, 701, MAX}) {
            CHECKS.same("byte " + i, x.written(i), -1);
        }
        x.clear();
        x.read();
        x.write();
        CHECKS.same("the last byte of a shorter one", x.written(1), (int) '\n');
        CHECKS.same("behind it, where the longer one had a byte", x.written(2), -1);
    }

    private static void againHasRoom() {
        CHECKS.of("What was written latest becomes the message, as far as it has room: how many bytes.");
        for (int size = 318; size <= 322; size++) {
            MailTree x = Mail.read("A:b\n\n" + "\u00ff".repeat(size - 9) + "z");
            CHECKS.same("write", x.write(), size);
            int due = Math.min(320, size);
            CHECKS.same("again of " + size, x.again(), due);
            CHECKS.same("room behind " + size, x.feed(0L, 1), due < 320);
            CHECKS.same("what was written stays", x.written(size - 1), (int) 'z');
            x.read();
            CHECKS.same("the last byte of " + size, x.content(0, due - 9), size <= 320 ? (int) 'z' : 0xff);
        }
        MailTree most = Mail.read("Content-Transfer-Encoding:quoted-printable\nLonger:" + "x".repeat(40) + "\n\n"
                + quotedPart(9));
        CHECKS.same("write of 700", most.write(), 700);
        String written = Mail.written(most);
        CHECKS.same("again of 700", most.again(), 320);
        CHECKS.same("all that was written stays", Mail.written(most), written);
        CHECKS.same("320 bytes", most.clear(), 320);
    }

    private static void againOfNothing() {
        CHECKS.of("What was written latest becomes the message");
        MailTree x = Mail.fed("abc");
        CHECKS.same("nothing written", x.again(), 0);
        CHECKS.same("no bytes", x.clear(), 0);
        MailTree least = new MailTree();
        least.read();
        least.write();
        Mail.feed(least, "abc");
        CHECKS.same("the least that can be written", least.again(), 2);
        CHECKS.same("instead of the bytes before", least.clear(), 2);
        MailTree full = Mail.read("x".repeat(320));
        full.clear();
        full.read();
        full.write();
        Mail.feed(full, "y".repeat(320));
        CHECKS.same("instead of a full message", full.again(), 2);
        CHECKS.same("room behind it", full.feed(0L, 8), true);
    }

    /** An object whose next call is its 512th. */
    private static MailTree usedFor511Calls() {
        MailTree x = new MailTree();
        x.feed(0x78_0A0A_623A41L, 6);
        x.read();
        x.write();
        String due = "A: b\r\n\r\nx";
        for (int call = 4; call <= 511; call++) {
            int i = call % due.length();
            CHECKS.same("call " + call, x.written(i), (int) due.charAt(i));
        }
        return x;
    }

    private static void the512th(String what, Function<MailTree, Object> call, Object due) {
        MailTree x = usedFor511Calls();
        CHECKS.outcome("the 512th call, " + what, () -> call.apply(x), due);
    }

    private static void calls512() {
        CHECKS.of("An object is used for at most 512 calls after it has been made");
        the512th("feed", x -> x.feed(0L, 8), true);
        the512th("a refused feed", x -> x.feed(0L, 9), false);
        the512th("clear", MailTree::clear, 6);
        the512th("read", MailTree::read, 1);
        the512th("entities", MailTree::entities, 1);
        the512th("look", x -> x.look(0, Mail.END), 6);
        the512th("look at none", x -> x.look(1, 0), NO_ELEMENT);
        the512th("length", x -> x.length(0, 0, 1), 1);
        the512th("letter", x -> x.letter(0, 0, 1, 0), (int) 'b');
        the512th("content", x -> x.content(0, 0), (int) 'x');
        the512th("boundary", x -> x.boundary(0, 0), -1);
        the512th("write", MailTree::write, 9);
        the512th("written", x -> x.written(8), (int) 'x');
        the512th("again", MailTree::again, 9);
        MailTree x = Mail.read(MULTI + "\n--qr\n" + LEAF);
        // Nine calls so far: eight of feed, one of read.
        for (int call = 10; call + 2 <= 512; call += 3) {
            CHECKS.outcome("call " + call + ", write", x::write, 76);
            CHECKS.same("call " + (call + 1) + ", again", x.again(), 76);
            CHECKS.same("call " + (call + 2) + ", read", x.read(), 2);
        }
    }
}
