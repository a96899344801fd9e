import java.util.List;
import java.util.Random;

/** Any call in any state throws nothing but what the document tells for it, and answers within its bounds. */
final class AnyCallsTest {
    private static final int OBJECTS = 400;
    private static final int CALLS = 512;
    private static final List<String> NO_ELEMENT = List.of("NoSuchElementException");
    private static final List<String> NO_ELEMENT_OR_ARGUMENT =
            List.of("NoSuchElementException", "IllegalArgumentException");
    private static final List<String> NOT_WRITTEN = List.of("IllegalStateException", "UnsupportedOperationException");
    private static final int[] WILD = {Integer.MIN_VALUE, Integer.MIN_VALUE + 1, -2, -1, 0, 1, 2, 3, 7, 8, 9, 10, 15,
        16, 17, 319, 320, 321, 699, 700, 701, Integer.MAX_VALUE - 1, Integer.MAX_VALUE};
    private static final String[] STARTS = {"", "Content-Type:multipart/x;boundary=q\n\n--q\n", "A:b\n",
        "Content-Type:message/rfc822\n\n", "Content-Transfer-Encoding:quoted-printable\n\n", "\n--q\n"};
    private static final Checks CHECKS = new Checks();
    private static final Random RANDOM = new Random(13);

    private AnyCallsTest() {
    }

    public static void main(String[] args) {
        for (int i = 0; i < OBJECTS; i++) {
            MailTree x = Mail.fed(STARTS[RANDOM.nextInt(STARTS.length)]);
            for (int k = 0; k < CALLS; k++) {
                anyCall(x);
            }
        }
        CHECKS.end();
    }

    private static int wild() {
        return RANDOM.nextInt(3) == 0 ? WILD[RANDOM.nextInt(WILD.length)] : RANDOM.nextInt(4);
    }

    private static void within(String what, List<String> allowed, int least, int most, Checks.Call call) {
        Object got = Checks.outcome(call);
        boolean fine = got instanceof Integer n ? n >= least && n <= most : allowed.contains(got);
        CHECKS.same(what + " answered " + got, fine, true);
    }

    private static void anyCall(MailTree x) {
        int a = wild();
        int b = wild();
        int c = wild();
        int d = wild();
        long v = RANDOM.nextLong();
        switch (RANDOM.nextInt(16)) {
            case 0 -> within("clear", List.of(), 0, 320, x::clear);
            case 1 -> within("read", List.of(), 1, 16, x::read);
            case 2 -> within("entities", List.of(), 0, 16, x::entities);
            case 3 -> within("look", NO_ELEMENT_OR_ARGUMENT, -1, 320, () -> x.look(a, b));
            case 4 -> within("length", NO_ELEMENT_OR_ARGUMENT, 0, 320, () -> x.length(a, b, c));
            case 5 -> within("letter", NO_ELEMENT_OR_ARGUMENT, 0, 255, () -> x.letter(a, b, c, d));
            case 6 -> within("content", NO_ELEMENT, 0, 255, () -> x.content(a, b));
            case 7 -> within("boundary", NO_ELEMENT, -1, 126, () -> x.boundary(a, b));
            case 8 -> within("write", NOT_WRITTEN, 2, 700, x::write);
            case 9 -> within("written", List.of(), -1, 255, () -> x.written(a));
            case 10 -> within("again", List.of(), 0, 320, x::again);
            default -> within("feed", List.of(), 0, 1, () -> x.feed(v, a) ? 1 : 0);
        }
    }
}
