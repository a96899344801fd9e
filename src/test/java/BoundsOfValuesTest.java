/** The boundary cases IN VALUES, of TYPE, PARAMETERS, ENCODING, KIND and DEPTH, a method for each sentence. */
final class BoundsOfValuesTest {
    private static final String ENCLOSING = "Content-Type:message/rfc822\n\n";
    private static final String MULTI = "Content-Type:multipart/x;boundary=q\n\n";
    private static final Checks CHECKS = new Checks();

    private BoundsOfValuesTest() {
    }

    public static void main(String[] args) {
        spaceInAnyNumber();
        whatIsNoSpace();
        commentsInComments();
        bytesThatStandForThemselves();
        commentsWithoutEnd();
        atomBytes();
        emptyAtoms();
        quotedBytes();
        quotedOnes();
        quotedMayBeEmpty();
        typeAndPerhapsMore();
        valuesEndWithTheirFields();
        anyNumberOfParameters();
        nothingMoreCounts();
        firstContentType();
        encodings();
        firstEncoding();
        boundarySizes();
        boundaryBytes();
        lastByteNoBlank();
        firstBoundary();
        kindsByType();
        depths();
        leavesAtDepth4();
        CHECKS.end();
    }

    private static MailTree typed(String type) {
        return Mail.read("Content-Type:" + type + "\n\nx");
    }

    private static void multipart(String type, String boundary) {
        MailTree x = typed(type);
        CHECKS.same("kind of " + type, x.look(0, Mail.KIND), 1);
        CHECKS.same("boundary of " + type, Mail.boundary(x, 0), boundary);
    }

    private static void kind(String type, int want) {
        MailTree x = typed(type);
        CHECKS.same("kind of " + type, x.look(0, Mail.KIND), want);
        CHECKS.same("entities of " + type, x.entities(), want == 2 ? 2 : 1);
        CHECKS.same("content of " + type, Mail.content(x, 0), want == 0 ? "x" : "");
        CHECKS.same("boundary of " + type, x.boundary(0, 0) >= 0, want == 1);
    }

    private static void leaf(String type) {
        kind(type, 0);
    }

    /** A leaf whose field may end within the given type, so that its content is not looked at. */
    private static void noKind(String type) {
        CHECKS.same("kind of " + type, typed(type).look(0, Mail.KIND), 0);
    }

    private static void encoding(String value, int want) {
        MailTree x = Mail.read("Content-Transfer-Encoding:" + value + "\n\n");
        CHECKS.same("encoding of " + value, x.look(0, Mail.ENCODING), want);
    }

    private static void spaceInAnyNumber() {
        CHECKS.of("SPACE is blanks and COMMENTS, in any number");
        String[] spaces = {"", " ", "\t", " \t ", "()", "(a)", "(a)(b)", " (a) \t(b(c))\t", "\n ", "(\n )",
            " ".repeat(40), "()".repeat(20)};
        for (String s : spaces) {
            multipart(s + "multipart/x;boundary=q", "q");
            multipart("multipart" + s + "/x;boundary=q", "q");
            multipart("multipart/" + s + "x;boundary=q", "q");
            multipart("multipart/x" + s + ";boundary=q", "q");
            multipart("multipart/x;" + s + "boundary=q", "q");
            multipart("multipart/x;boundary" + s + "=q", "q");
            multipart("multipart/x;boundary=" + s + "q", "q");
            multipart("multipart/x;boundary=" + s + "\"q\"", "q");
            multipart("multipart/x;a=b" + s + ";boundary=q", "q");
            multipart("multipart/x;a=\"b\"" + s + ";boundary=q", "q");
            encoding(s + "base64", 1);
            encoding("base64" + s, 1);
            encoding(s + "quoted-printable" + s, 2);
        }
        multipart("(a)multipart (b)/\t(c)x ()(d) ; boundary(e)= (f) q(g)", "q");
    }

    private static void whatIsNoSpace() {
        CHECKS.of("SPACE is blanks and COMMENTS");
        for (int b = 0; b <= 255; b++) {
            String c = String.valueOf((char) b);
            boolean blank = b == 32 || b == 9;
            if (b != '(' && b != '\n') {
                encoding("(x)" + c + "base64", blank ? 1 : 0);
                encoding("base64" + c + "(x)", blank ? 1 : 0);
            }
            if (b != '(' && b != '\n' && b != '/') {
                kind("message/" + c + "rfc822", blank ? 2 : 0);
            }
        }
        kind("message/()rfc822", 2);
        kind("message//rfc822", 0);
        kind("message/)rfc822", 0);
        kind("message/())rfc822", 0);
    }

    private static void commentsInComments() {
        CHECKS.of("\"(\" up to the \")\" that belongs to it, with comments in it");
        for (int deep : new int[] {1, 2, 3, 40, 100}) {
            String open = "(".repeat(deep);
            kind(open + ")".repeat(deep) + "message/rfc822", 2);
            kind(open + ")".repeat(deep - 1) + "message/rfc822", 0);
            kind(open + ")".repeat(deep + 1) + "message/rfc822", 0);
        }
        kind("(a(b)c(d(e)f)g)message/rfc822", 2);
        kind("(a(b)c(d(e)f)message/rfc822", 0);
        kind("(\")message/rfc822", 2);
        kind("(/;=)message/rfc822", 2);
        kind("(\u0000\u00ff)message/rfc822", 2);
    }

    private static void bytesThatStandForThemselves() {
        CHECKS.of("behind \"\\\" a byte stands for itself");
        kind("(\\))message/rfc822", 2);
        kind("(\\)message/rfc822", 0);
        kind("(\\()message/rfc822", 2);
        kind("(\\())message/rfc822", 0);
        kind("(\\\\)message/rfc822", 2);
        kind("(\\\\\\)message/rfc822", 0);
        kind("(\\\\\\))message/rfc822", 2);
        kind("(\\a)message/rfc822", 2);
        kind("\\()message/rfc822", 0);
        kind("\\message/rfc822", 0);
        kind("(\r\n \\\r\n )message/rfc822", 2);
        multipart("multipart/x;boundary=\"\\a\\\\\\\"\\ b\"", "a\\\" b");
        multipart("multipart/x;boundary=\"\\q\"", "q");
        leaf("multipart/x;boundary=\"q\\\"");
        multipart("multipart/x;boundary=\"q\\\\\"", "q\\");
        leaf("multipart/x;boundary=\"q\\\\\\\"");
        leaf("multipart/x;boundary=\"q\\ \"");
    }

    private static void commentsWithoutEnd() {
        CHECKS.of("one without its \")\" goes up to the value's end");
        kind("message/rfc822(", 2);
        kind("message/rfc822(a(b)", 2);
        kind("message/rfc822(a\\)", 2);
        kind("message/rfc822(a\\", 2);
        kind("message/rfc822(a\n b", 2);
        kind("message/(rfc822", 0);
        kind("message(/rfc822", 0);
        kind("(message/rfc822", 0);
        kind("(message/rfc822\\", 0);
        kind("(", 0);
        multipart("multipart/x;boundary=q(;a=b", "q");
        leaf("multipart/x(;boundary=q");
        leaf("multipart/x;(boundary=q");
        leaf("multipart/x;boundary(=q");
        leaf("multipart/x;boundary=(q");
        leaf("multipart/x;a=b(;boundary=q");
        encoding("base64(", 1);
        encoding("base64 (a\\", 1);
        encoding("(base64", 0);
        MailTree x = Mail.read("Content-Transfer-Encoding:base64(\nContent-Type:message/rfc822\n\n");
        CHECKS.same("the field before it is read", x.look(0, Mail.ENCODING), 1);
        CHECKS.same("the field behind it is none of it", x.look(0, Mail.KIND), 2);
    }

    private static boolean isAtomByte(int b) {
        return b >= 33 && b <= 126 && "()<>@,;:\\\"/[]?=".indexOf(b) < 0;
    }

    private static void atomBytes() {
        CHECKS.of("An ATOM is one or more bytes 33 .. 126 but ( ) < > @ , ; : \\ \" / [ ] ? =");
        for (int b = 0; b <= 255; b++) {
            String c = String.valueOf((char) b);
            boolean atom = isAtomByte(b);
            multipart("multipart/x;boundary=a" + c + "c", atom ? "a" + c + "c" : "a");
            multipart("multipart/x;boundary=ac" + c, atom ? "ac" + c : "ac");
            if (atom) {
                multipart("multipart/x;boundary=" + c, c);
                multipart("multipart/" + c + ";boundary=q", "q");
                multipart("multipart/x;" + c + "=a;boundary=q", "q");
            } else {
                noKind("multipart/x;boundary=" + c);
                noKind("multipart/" + c + ";boundary=q");
                noKind("multipart/x;" + c + "=a;boundary=q");
            }
        }
    }

    private static void emptyAtoms() {
        CHECKS.of("An ATOM is one or more bytes");
        leaf("/rfc822");
        leaf("message/");
        leaf("/");
        leaf("");
        leaf("multipart/;boundary=q");
        leaf("multipart/x;=q");
        leaf("multipart/x;=a;boundary=q");
        leaf("multipart/x;boundary=");
        leaf("multipart/x;a=;boundary=q");
        multipart("multipart/x;boundary=q", "q");
        multipart("multipart/x;a=b;boundary=q", "q");
        encoding("", 0);
        encoding("()", 0);
        MailTree longest = Mail.read("Content-Type:multipart/" + "x".repeat(284) + ";boundary=qr\n");
        CHECKS.same("bytes of the longest", longest.look(0, Mail.END), 320);
        CHECKS.same("boundary behind a long atom", Mail.boundary(longest, 0), "qr");
    }

    private static void quotedBytes() {
        CHECKS.of("a QUOTED one is what stands between two '\"'");
        for (int b = 0; b <= 255; b++) {
            String type = "multipart/x;a=\"" + (char) b + "\";boundary=q";
            if (b == '"' || b == '\\' || b == '\n') {
                noKind(type);
            } else {
                multipart(type, "q");
            }
        }
    }

    private static void quotedOnes() {
        CHECKS.of("a QUOTED one is what stands between two '\"', where behind \"\\\" a byte stands for itself");
        multipart("multipart/x;boundary=\"q\"", "q");
        leaf("multipart/x;boundary=\"q");
        leaf("multipart/x;boundary=\"");
        leaf("multipart/x;boundary=\"q\\");
        multipart("multipart/x;boundary=\"q\"r", "q");
        multipart("multipart/x;boundary=\"q\"\"r\"", "q");
        multipart("multipart/x;boundary=\"(q)\"", "(q)");
        multipart("multipart/x;boundary=\"(\"", "(");
        multipart("multipart/x;boundary=\"q;r=s\"", "q;r=s");
        multipart("multipart/x;a=\"\\\"\";boundary=q", "q");
        multipart("multipart/x;a=\"\\\\\";boundary=q", "q");
        leaf("multipart/x;a=\"\\\";boundary=q");
        leaf("multipart/x;a=\"b;boundary=q");
        leaf("multipart/x;\"boundary\"=q");
        leaf("\"multipart\"/x;boundary=q");
        leaf("multipart/\"x\";boundary=q");
        encoding("\"base64\"", 0);
        multipart("multipart/x;boundary=\"a\r\n b\"", "a b");
    }

    private static void quotedMayBeEmpty() {
        CHECKS.of("(it may be empty)");
        multipart("multipart/x;a=\"\";boundary=q", "q");
        multipart("multipart/x;boundary=q;a=\"\"", "q");
        multipart("multipart/x;a=\"b\";boundary=q", "q");
        leaf("multipart/x;boundary=\"\"");
    }

    private static void typeAndPerhapsMore() {
        CHECKS.of("space, an atom, the TYPE, space, \"/\", space, an atom, the SUBTYPE, space, and perhaps more");
        for (String more : new String[] {"", " ", ";", " more", "/", "/more", "=", "@", ",", ")", "\"", "\\",
            "\u0000", "\u00ff", "[", ";;", ";a", ";a=", "(", "()"}) {
            kind("message/rfc822" + more, 2);
        }
        leaf("message");
        leaf("message/");
        leaf(";boundary=q");
        leaf("multipart;boundary=q");
        leaf("multipart/;boundary=q");
        leaf("message rfc822");
        leaf("message;rfc822");
        leaf("message/rfc822more");
        leaf("more message/rfc822");
        leaf("message/rfc 822");
        leaf("mes sage/rfc822");
        leaf("mes()sage/rfc822");
    }

    /** Each of two fields has what the other one lacks. */
    private static void twoFields(String first, String second, int kind, int encoding) {
        MailTree x = Mail.read(first + "\n" + second + "\n\n");
        CHECKS.same("kind by " + first + ", " + second, x.look(0, Mail.KIND), kind);
        CHECKS.same("encoding by " + first + ", " + second, x.look(0, Mail.ENCODING), encoding);
    }

    private static void valuesEndWithTheirFields() {
        CHECKS.of("The first field Content-Type, if its value is ..; where this ends nothing more counts");
        String type = "Content-Type:";
        String encoding = "Content-Transfer-Encoding:";
        twoFields(type + "multipart/x;boundary=\"q", "A:\"", 0, 0);
        twoFields(type + "multipart/x;boundary=", "A:q", 0, 0);
        twoFields(type + "multipart/x;boundary", "A:=q", 0, 0);
        twoFields(type + "multipart/x", "A:;boundary=q", 0, 0);
        twoFields(type + "multipart/", "A:x;boundary=q", 0, 0);
        twoFields(type + "multipart", "A:/x;boundary=q", 0, 0);
        twoFields(type, "A:multipart/x;boundary=q", 0, 0);
        twoFields("A:", encoding + "base64;boundary=q", 0, 0);
        twoFields(encoding + "quoted-printable", "A:;boundary=q", 0, 2);
        twoFields(encoding + "base64", "A:x", 0, 1);
        twoFields(encoding + "base", "A:64", 0, 0);
        twoFields(encoding + "(", "A:)base64", 0, 0);
        twoFields(encoding + "(\\", "A:)base64", 0, 0);
        twoFields("A:multipart/x;boundary=q", type, 0, 0);
        twoFields("A:base64", encoding, 0, 0);
    }

    private static void anyNumberOfParameters() {
        CHECKS.of("behind it any number of PARAMETERS");
        leaf("multipart/x");
        leaf("multipart/x;");
        for (int count : new int[] {0, 1, 2, 8, 16, 20, 32, 60, 66}) {
            multipart("multipart/x" + ";a=b".repeat(count) + ";boundary=qrst", "qrst");
            multipart("multipart/x;boundary=qrst" + ";a=b".repeat(count), "qrst");
        }
    }

    private static void nothingMoreCounts() {
        CHECKS.of("each \";\", space, an atom, the ATTRIBUTE, space, \"=\", space, an atom or a quoted one, space; "
                + "where this ends nothing more counts");
        for (String end : new String[] {";", ";a", ";a=", ";=b", ";a b=c", ";a=b c", ";a=b=c", ";a=b/c", ";a=\"b",
            ";a=\"b\"c", ";a=(b)", " a=b", ",a=b", ";(a)", ";\"a\"=b", ";a=b:", ";a==b", ";a=@"}) {
            leaf("multipart/x" + end + ";boundary=q");
            multipart("multipart/x;boundary=q" + end, "q");
            multipart("multipart/x;boundary=q" + end + ";boundary=r", "q");
        }
        leaf("multipart/xboundary=q");
        leaf("multipart/x boundary=q");
        leaf("multipart/x;boundary");
        leaf("multipart/x;boundary:q");
    }

    private static void firstContentType() {
        CHECKS.of("The first field Content-Type, if its value is");
        String first = "Content-Type:message/rfc822\n";
        String none = "Content-Type:\n";
        CHECKS.same("first of one", Mail.read(first).look(0, Mail.KIND), 2);
        CHECKS.same("first of two", Mail.read(first + none).look(0, Mail.KIND), 2);
        CHECKS.same("second of two", Mail.read(none + first).look(0, Mail.KIND), 0);
        CHECKS.same("behind others", Mail.read("a:\n".repeat(7) + first).look(0, Mail.KIND), 2);
        CHECKS.same("as a ninth", Mail.read("a:\n".repeat(8) + first).look(0, Mail.KIND), 0);
        CHECKS.same("none", Mail.read("").look(0, Mail.KIND), 0);
        CHECKS.same("in a part alone", Mail.read(MULTI + "--q\n" + first).look(1, Mail.KIND), 2);
        CHECKS.same("not the whole's", Mail.read(MULTI + "--q\n\n" + first).look(1, Mail.KIND), 0);
    }

    private static void encodings() {
        CHECKS.of("if its value is space, an atom, space: ENCODING 1 if that is base64, 2 if it is quoted-printable; "
                + "otherwise 0");
        encoding("base64", 1);
        encoding("quoted-printable", 2);
        encoding("BASE64", 1);
        encoding("QUOTED-PRINTABLE", 2);
        for (String word : new String[] {"base64", "quoted-printable"}) {
            encoding(word.substring(1), 0);
            encoding(word.substring(0, word.length() - 1), 0);
            encoding(word + "x", 0);
            encoding("x" + word, 0);
            encoding(word + " x", 0);
            encoding("x " + word, 0);
            encoding(word + " " + word, 0);
            encoding(word + ";", 0);
            encoding(word + ";a=b", 0);
            encoding(word + "/x", 0);
            encoding(word + ")", 0);
            for (int i = 0; i < word.length(); i++) {
                encoding(word.substring(0, i) + "!" + word.substring(i + 1), 0);
            }
            for (int i = 1; i < word.length(); i++) {
                encoding(word.substring(0, i) + "()" + word.substring(i), 0);
            }
        }
        for (String other : new String[] {"", " ", "7bit", "8bit", "binary", "base 64", "base-64", "quoted", "64"}) {
            encoding(other, 0);
        }
    }

    private static void firstEncoding() {
        CHECKS.of("The first field Content-Transfer-Encoding");
        String first = "Content-Transfer-Encoding:base64\n";
        String second = "Content-Transfer-Encoding:quoted-printable\n";
        String none = "Content-Transfer-Encoding:\n";
        CHECKS.same("none", Mail.read("").look(0, Mail.ENCODING), 0);
        CHECKS.same("first of two", Mail.read(first + second).look(0, Mail.ENCODING), 1);
        CHECKS.same("first of two the other way", Mail.read(second + first).look(0, Mail.ENCODING), 2);
        CHECKS.same("second of two", Mail.read(none + first).look(0, Mail.ENCODING), 0);
        CHECKS.same("as an eighth", Mail.read("a:\n".repeat(7) + first).look(0, Mail.ENCODING), 1);
        CHECKS.same("as a ninth", Mail.read("a:\n".repeat(8) + first).look(0, Mail.ENCODING), 0);
        CHECKS.same("not the whole's", Mail.read(first + MULTI + "--q\n\nQUJD").look(1, Mail.ENCODING), 0);
    }

    private static void boundarySizes() {
        CHECKS.of("the first parameter boundary has 1 to 20 bytes");
        for (int size = 1; size <= 23; size++) {
            String boundary = "12345678901234567890123".substring(0, size);
            for (String given : new String[] {boundary, "\"" + boundary + "\"",
                "\"" + boundary.replaceAll(".", "\\\\$0") + "\""}) {
                if (size <= 20) {
                    multipart("multipart/x;boundary=" + given, boundary);
                } else {
                    leaf("multipart/x;boundary=" + given);
                }
            }
        }
        leaf("multipart/x;boundary=\"\"");
        leaf("multipart/x;boundary=" + "q".repeat(250));
        leaf("multipart/x;boundary=\"" + "q".repeat(250) + "\"");
        leaf("multipart/x;boundary=\"" + " ".repeat(21) + "q\"");
        multipart("multipart/x;boundary=\"" + " ".repeat(19) + "q\"", " ".repeat(19) + "q");
    }

    private static void boundaryBytes() {
        CHECKS.of("the first parameter boundary has 1 to 20 bytes, 32 .. 126");
        for (int b = 0; b <= 255; b++) {
            String c = String.valueOf((char) b);
            String given = b == '"' || b == '\\' ? "\\" + c : c;
            if (b >= 32 && b <= 126) {
                multipart("multipart/x;boundary=\"a" + given + "b\"", "a" + c + "b");
                multipart("multipart/x;boundary=\"" + given + "b\"", c + "b");
            } else {
                noKind("multipart/x;boundary=\"a" + given + "b\"");
                noKind("multipart/x;boundary=\"" + given + "b\"");
                noKind("multipart/x;boundary=\"a" + given + "\"");
            }
        }
    }

    private static void lastByteNoBlank() {
        CHECKS.of("the last one no blank");
        multipart("multipart/x;boundary=\"a b\"", "a b");
        multipart("multipart/x;boundary=\" b\"", " b");
        leaf("multipart/x;boundary=\"a \"");
        leaf("multipart/x;boundary=\"a b \"");
        leaf("multipart/x;boundary=\" \"");
        leaf("multipart/x;boundary=\"a\t\"");
        leaf("multipart/x;boundary=\"a\\ \"");
        leaf("multipart/x;boundary=\"1234567890123456789 \"");
        multipart("multipart/x;boundary=\"a!\" ", "a!");
        multipart("multipart/x;boundary=a ", "a");
    }

    private static void firstBoundary() {
        CHECKS.of("the first parameter boundary");
        multipart("multipart/x;boundary=q;boundary=r", "q");
        multipart("multipart/x;BOUNDARY=q;boundary=r", "q");
        multipart("multipart/x;boundary=q;boundary=\"\"", "q");
        leaf("multipart/x;boundary=\"\";boundary=r");
        leaf("multipart/x;boundary=123456789012345678901;boundary=r");
        leaf("multipart/x;boundary=\"a \";boundary=r");
        leaf("multipart/x;boundary=\"\u0080\";boundary=r");
        multipart("multipart/x;boundar=a;boundaryx=b;xboundary=c;boundary=q", "q");
    }

    private static void kindsByType() {
        CHECKS.of("KIND 1, MULTIPART: the type is multipart ..; 2, ENCLOSING: type message, subtype rfc822; "
                + "otherwise 0, a LEAF.");
        kind("multipart/rfc822;boundary=q", 1);
        kind("multipart/x", 0);
        kind("multipart/rfc822", 0);
        kind("message/rfc822", 2);
        kind("message/rfc822;boundary=q", 2);
        kind("message/x;boundary=q", 0);
        kind("text/rfc822", 0);
        kind("text/x;boundary=q", 0);
        for (String word : new String[] {"multipart", "message"}) {
            for (int i = 0; i < word.length(); i++) {
                leaf(word.substring(0, i) + "!" + word.substring(i + 1) + "/rfc822;boundary=q");
            }
            leaf(word.substring(1) + "/rfc822;boundary=q");
            leaf(word + "s/rfc822;boundary=q");
        }
        leaf("message/rfc82");
        leaf("message/rfc8222");
        leaf("message/rfc823");
        leaf("message/fc822");
    }

    private static void depths() {
        CHECKS.of("The message's own entity has the DEPTH 1, a part one more than what it is part of");
        for (int levels = 0; levels <= 5; levels++) {
            MailTree x = Mail.read(ENCLOSING.repeat(levels));
            CHECKS.same("entities of " + levels, x.entities(), Math.min(4, 1 + levels));
            for (int e = 0; e < x.entities(); e++) {
                CHECKS.same("depth of " + e, x.look(e, Mail.DEPTH), 1 + e);
                CHECKS.same("part of what " + e, x.look(e, Mail.PARENT), e - 1);
            }
        }
        MailTree x = Mail.read(MULTI + "--q\n" + ENCLOSING + "\n--q\n\n--q\n" + ENCLOSING + ENCLOSING);
        StringBuilder depths = new StringBuilder();
        for (int e = 0; e < x.entities(); e++) {
            depths.append(x.look(e, Mail.DEPTH));
        }
        CHECKS.same("depths of parts", depths.toString(), "1232234");
    }

    private static void leavesAtDepth4() {
        CHECKS.of("at depth 4 all are leaves");
        for (int depth = 1; depth <= 4; depth++) {
            int last = depth - 1;
            MailTree x = Mail.read(ENCLOSING.repeat(last) + ENCLOSING + "A:b\n\nxyz");
            CHECKS.same("an enclosing one at " + depth, x.look(last, Mail.KIND), depth < 4 ? 2 : 0);
            CHECKS.same("its parts", x.look(last, Mail.PARTS), depth < 4 ? 1 : 0);
            CHECKS.same("its content", Mail.content(x, last), depth < 4 ? "" : "A:b\n\nxyz");
            CHECKS.same("entities", x.entities(), Math.min(4, depth + 1));
            MailTree y = Mail.read(ENCLOSING.repeat(last) + MULTI + "--q\n\nxyz\n--q--");
            CHECKS.same("a multipart at " + depth, y.look(last, Mail.KIND), depth < 4 ? 1 : 0);
            CHECKS.same("its parts", y.look(last, Mail.PARTS), depth < 4 ? 1 : 0);
            CHECKS.same("its boundary", Mail.boundary(y, last), depth < 4 ? "q" : "");
            CHECKS.same("its content", Mail.content(y, last), depth < 4 ? "" : "--q\n\nxyz\n--q--");
            CHECKS.same("entities", y.entities(), Math.min(4, depth + 1));
        }
        MailTree x = Mail.read(ENCLOSING.repeat(3) + "Content-Transfer-Encoding:base64\n" + MULTI + "QUJD");
        CHECKS.same("a leaf in its encoding", Mail.content(x, 3), "ABC");
    }
}
