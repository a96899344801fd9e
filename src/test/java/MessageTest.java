/** Promises 1, 2, 3 and 5: a new object, feed, clear and entities. */
final class MessageTest {
    private static final Checks CHECKS = new Checks();

    private MessageTest() {
    }

    public static void main(String[] args) {
        newObject();
        feedPutsLowestBytesFirst();
        feedRefusesWrongCounts();
        feedKeepsToItsRoom();
        clearLeavesWhatWasRead();
        readingIsAskedForAnew();
        readingManyTimes();
        CHECKS.end();
    }

    private static void newObject() {
        MailTree x = new MailTree();
        CHECKS.same("entities of a new object", x.entities(), 0);
        CHECKS.same("written of a new object", x.written(0), -1);
        CHECKS.same("clear of a new object", x.clear(), 0);
        CHECKS.same("again of a new object", x.again(), 0);
        CHECKS.noElement("look at a new object", () -> x.look(0, 0));
        CHECKS.noElement("length in a new object", () -> x.length(0, 0, 0));
        CHECKS.noElement("letter in a new object", () -> x.letter(0, 0, 0, 0));
        CHECKS.noElement("content in a new object", () -> x.content(0, 0));
        CHECKS.noElement("boundary in a new object", () -> x.boundary(0, 0));
        CHECKS.outcome("write of a new object", x::write, "IllegalStateException");
        CHECKS.same("objects share nothing", Mail.read("\nabc").look(0, Mail.CONTENT) + new MailTree().clear(), 3);
    }

    private static void feedPutsLowestBytesFirst() {
        MailTree x = new MailTree();
        CHECKS.same("feed of a line's end", x.feed(0x0AL, 1), true);
        CHECKS.same("feed of three", x.feed(0x7F_FF80_6162_6364L, 3), true);
        CHECKS.same("feed of eight", x.feed(0xFFFEFDFC00010280L, 8), true);
        x.read();
        CHECKS.same("bytes fed", Mail.content(x, 0), "dcb\u0080\u0002\u0001\u0000\u00fc\u00fd\u00fe\u00ff");
        for (int n = 1; n <= 8; n++) {
            MailTree y = new MailTree();
            CHECKS.same("feed of " + n, y.feed(-1L, n), true);
            CHECKS.same("bytes after feed of " + n, y.clear(), n);
        }
    }

    private static void feedRefusesWrongCounts() {
        MailTree x = new MailTree();
        for (int n : new int[] {0, -1, 9, 10, Integer.MIN_VALUE, Integer.MAX_VALUE}) {
            CHECKS.same("feed of " + n, x.feed(1L, n), false);
        }
        CHECKS.same("bytes after wrong feeds", x.clear(), 0);
    }

    private static void feedKeepsToItsRoom() {
        MailTree x = new MailTree();
        for (int i = 0; i < 39; i++) {
            x.feed(0x2020202020202020L, 8);
        }
        CHECKS.same("feed up to 319", x.feed(0L, 7), true);
        CHECKS.same("feed up to 321", x.feed(0L, 2), false);
        CHECKS.same("feed up to 327", x.feed(0L, 8), false);
        CHECKS.same("feed up to 320", x.feed(0L, 1), true);
        CHECKS.same("feed up to 321 by one", x.feed(0L, 1), false);
        x.read();
        CHECKS.same("a full message is read", x.look(0, Mail.END), 320);
        CHECKS.same("clear of a full message", x.clear(), 320);
        CHECKS.same("feed after clear", x.feed(65L, 1), true);
        CHECKS.same("bytes after clear and feed", x.clear(), 1);
    }

    private static void clearLeavesWhatWasRead() {
        MailTree x = Mail.read("A: b\nContent-Type: multipart/x; boundary=q\n\n--q\n\nxy\n--q--\n");
        CHECKS.same("clear tells how many", x.clear(), 58);
        CHECKS.same("clear of nothing", x.clear(), 0);
        Mail.feed(x, "Z:zzzzzzzzzzzzzzzzzzzzzzzzzzzzzzzzzzzzzzzzzzzzzzzzzzzzzzzzzzzzzz\n\nother");
        CHECKS.same("entities stay", x.entities(), 2);
        CHECKS.same("fields stay", Mail.fields(x, 0), "A=b;Content-Type=multipart/x; boundary=q;");
        CHECKS.same("boundary stays", Mail.boundary(x, 0), "q");
        CHECKS.same("content stays", Mail.content(x, 1), "xy");
        CHECKS.same("the tree is written", x.write(), 65);
        CHECKS.same("what is written", Mail.written(x),
                "A: b\r\nContent-Type: multipart/x; boundary=q\r\n\r\n--q\r\n\r\nxy\r\n--q--\r\n");
    }

    private static void readingIsAskedForAnew() {
        MailTree x = Mail.fed("Content-Type: multipart/x; boundary=q\n\n--q\n");
        CHECKS.same("entities before read", x.entities(), 0);
        CHECKS.same("read", x.read(), 2);
        CHECKS.same("entities after read", x.entities(), 2);
        Mail.feed(x, "\nabc\n--q");
        CHECKS.same("entities after more bytes", x.entities(), 2);
        CHECKS.same("read again", x.read(), 3);
        CHECKS.same("entities after it", x.entities(), 3);
        CHECKS.same("content of the first part", Mail.content(x, 1), "abc");
        x.clear();
        CHECKS.same("read of nothing", x.read(), 1);
        CHECKS.same("entities of nothing", x.entities(), 1);
        CHECKS.same("kind of nothing", x.look(0, Mail.KIND), 0);
        CHECKS.same("no boundary is left over", x.boundary(0, 0), -1);
        CHECKS.same("no field is left over", x.look(0, Mail.FIELDS), 0);
        CHECKS.noElement("no part is left over", () -> x.look(1, 0));
    }

    /** A long message, so that what one read leaves behind would take the next one's room. */
    private static void readingManyTimes() {
        String head = "Content-Type: multipart/x; boundary=12345678901234567890";
        MailTree x = Mail.fed(head + "\n\n--12345678901234567890\n\n" + "x".repeat(150));
        for (int i = 0; i < 400; i++) {
            CHECKS.same("read " + i, x.read(), 2);
        }
        CHECKS.same("boundary after many reads", Mail.boundary(x, 0), "12345678901234567890");
        CHECKS.same("value after many reads", Mail.value(x, 0, 0), head.substring(14));
        CHECKS.same("content after many reads", Mail.content(x, 1), "x".repeat(150));
    }
}
