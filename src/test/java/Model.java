import java.nio.charset.StandardCharsets;
import java.util.ArrayList;
import java.util.Base64;
import java.util.List;
import java.util.regex.Matcher;
import java.util.regex.Pattern;

/**
 * A second reading of the document, made of texts and patterns, without a thought of speed or room: what it says
 * of a message must be what a MailTree says.
 */
final class Model {
    private static final Pattern LINE = Pattern.compile("[^\n]*\n|[^\n]+");
    private static final Pattern FIELD = Pattern.compile("([!-9;-~]+):(.*)", Pattern.DOTALL);
    private static final Pattern ATOM = Pattern.compile("[!#$%&'*+\\-.0-9A-Z^_`a-z{|}~]+");
    private static final Pattern QUOTED = Pattern.compile("\"((?:[^\"\\\\]|\\\\.)*)\"", Pattern.DOTALL);
    private static final Pattern QUOTED_PRINTABLE = Pattern.compile(
            "=(?<hex>[0-9A-Fa-f]{2})|(?<none>=[ \t]*\r?\n|[ \t]+(?=\r?\n|\\z))|(?<self>.)", Pattern.DOTALL);
    private static final Pattern TO_QUOTE = Pattern.compile(
            "(?<end>\r\n)|(?<self>[!-<>-~]|[ \t](?!\r\n|\\z))|.", Pattern.DOTALL);

    /** An entity, with its parts below it. */
    static final class Node {
        final int begin;
        final int end;
        final int depth;
        final int parent;
        final int number;
        final List<String[]> fields = new ArrayList<>();
        final List<Node> parts = new ArrayList<>();
        int body;
        int kind = 0;
        int encoding = 0;
        String boundary = "";
        String content = "";

        Node(int begin, int end, int depth, int parent, int number) {
            this.begin = begin;
            this.end = end;
            this.depth = depth;
            this.parent = parent;
            this.number = number;
        }
    }

    private final String message;
    private final List<Node> nodes = new ArrayList<>();

    private Model(String message) {
        this.message = message;
    }

    /** All entities of a message, by their numbers. */
    static List<Node> read(String message) {
        Model m = new Model(message);
        m.entity(0, message.length(), 1, null);
        return m.nodes;
    }

    static String write(Node n) {
        StringBuilder b = new StringBuilder();
        for (String[] field : n.fields) {
            b.append(field[0]).append(": ").append(field[1]).append("\r\n");
        }
        b.append("\r\n");
        if (n.kind == 0) {
            return b.append(encoded(n)).toString();
        }
        for (Node part : n.parts) {
            b.append(n.kind == 2 ? write(part) : "--" + n.boundary + "\r\n" + write(part) + "\r\n");
        }
        return b.append(n.kind == 1 ? "--" + n.boundary + "--\r\n" : "").toString();
    }

    private void entity(int begin, int end, int depth, Node parent) {
        if (nodes.size() == 16) {
            return;
        }
        Node n = new Node(begin, end, depth, parent == null ? -1 : parent.number, nodes.size());
        nodes.add(n);
        if (parent != null) {
            parent.parts.add(n);
        }
        n.body = fields(n);
        n.encoding = encoding(valueOf(n, "Content-Transfer-Encoding"));
        if (depth < 4) {
            type(n, valueOf(n, "Content-Type"));
        }
        if (n.kind == 2) {
            entity(n.body, end, depth + 1, n);
        } else if (n.kind == 1) {
            parts(n);
        } else {
            n.content = decoded(n.encoding, message.substring(n.body, end));
        }
    }

    private List<int[]> lines(int begin, int end) {
        List<int[]> all = new ArrayList<>();
        Matcher m = LINE.matcher(message).region(begin, end);
        while (m.find()) {
            String text = m.group().replaceFirst("\r?\n\\z", "");
            all.add(new int[] {m.start(), m.start() + text.length(), m.end()});
        }
        return all;
    }

    private int fields(Node n) {
        for (int[] line : lines(n.begin, n.end)) {
            String text = message.substring(line[0], line[1]);
            Matcher m = FIELD.matcher(text);
            if (text.isEmpty()) {
                trim(n);
                return line[2];
            }
            if (text.matches("(?s)[ \t].*") && !n.fields.isEmpty()) {
                n.fields.get(n.fields.size() - 1)[1] += text;
            } else if (m.matches() && n.fields.size() < 8) {
                n.fields.add(new String[] {m.group(1), m.group(2)});
            } else {
                trim(n);
                return line[0];
            }
        }
        trim(n);
        return n.end;
    }

    private static void trim(Node n) {
        for (String[] field : n.fields) {
            field[1] = field[1].replaceFirst("\\A[ \t]+", "").replaceFirst("[ \t]+\\z", "");
        }
    }

    private static String valueOf(Node n, String name) {
        for (String[] field : n.fields) {
            if (field[0].equalsIgnoreCase(name)) {
                return field[1];
            }
        }
        return "";
    }

    /** The value's rest behind space. */
    private static String spaceless(String s) {
        String rest = s.replaceFirst("\\A[ \t]+", "");
        return rest.startsWith("(") ? spaceless(behindComment(rest.substring(1))) : rest;
    }

    private static String behindComment(String s) {
        if (s.isEmpty() || s.startsWith(")")) {
            return s.isEmpty() ? "" : s.substring(1);
        }
        if (s.startsWith("(")) {
            return behindComment(behindComment(s.substring(1)));
        }
        return behindComment(s.substring(Math.min(s.length(), s.startsWith("\\") ? 2 : 1)));
    }

    private static int encoding(String value) {
        String s = spaceless(value);
        Matcher m = ATOM.matcher(s);
        if (!m.lookingAt() || !spaceless(s.substring(m.end())).isEmpty()) {
            return 0;
        }
        String word = m.group().toLowerCase();
        return word.equals("base64") ? 1 : word.equals("quoted-printable") ? 2 : 0;
    }

    private static void type(Node n, String value) {
        String s = spaceless(value);
        Matcher type = ATOM.matcher(s);
        if (!type.lookingAt()) {
            return;
        }
        s = spaceless(s.substring(type.end()));
        if (!s.startsWith("/")) {
            return;
        }
        s = spaceless(s.substring(1));
        Matcher subtype = ATOM.matcher(s);
        if (!subtype.lookingAt()) {
            return;
        }
        if (type.group().equalsIgnoreCase("message") && subtype.group().equalsIgnoreCase("rfc822")) {
            n.kind = 2;
        }
        String boundary = boundary(spaceless(s.substring(subtype.end())));
        if (type.group().equalsIgnoreCase("multipart") && boundary.matches("[ -~]{0,19}[!-~]")) {
            n.kind = 1;
            n.boundary = boundary;
        }
    }

    /** The first parameter boundary in what begins with parameters, or an empty text. */
    private static String boundary(String parameters) {
        if (!parameters.startsWith(";")) {
            return "";
        }
        String s = spaceless(parameters.substring(1));
        Matcher attribute = ATOM.matcher(s);
        if (!attribute.lookingAt()) {
            return "";
        }
        s = spaceless(s.substring(attribute.end()));
        if (!s.startsWith("=")) {
            return "";
        }
        s = spaceless(s.substring(1));
        Matcher atom = ATOM.matcher(s);
        Matcher quoted = QUOTED.matcher(s);
        boolean isAtom = atom.lookingAt();
        if (!isAtom && !quoted.lookingAt()) {
            return "";
        }
        if (attribute.group().equalsIgnoreCase("boundary")) {
            return isAtom ? atom.group() : quoted.group(1).replaceAll("(?s)\\\\(.)", "$1");
        }
        return boundary(spaceless(s.substring(isAtom ? atom.end() : quoted.end())));
    }

    private void parts(Node n) {
        String mark = Pattern.quote("--" + n.boundary);
        List<int[]> ranges = new ArrayList<>();
        int[] open = null;
        for (int[] line : lines(n.body, n.end)) {
            String text = message.substring(line[0], line[1]);
            boolean closing = text.matches("(?s)" + mark + "--[ \t]*");
            boolean delimiter = text.matches("(?s)" + mark + "[ \t]*");
            if (closing || delimiter) {
                open = null;
            } else if (open != null) {
                open[1] = line[1];
            }
            if (closing) {
                break;
            }
            if (delimiter) {
                open = new int[] {line[2], line[2]};
                ranges.add(open);
            }
        }
        for (int[] range : ranges) {
            entity(range[0], range == open ? n.end : range[1], n.depth + 1, n);
        }
    }

    private static String decoded(int encoding, String body) {
        if (encoding == 1) {
            String letters = body.replaceFirst("(?s)=.*", "").replaceAll("[^A-Za-z0-9+/]", "");
            int useful = letters.length() % 4 == 1 ? letters.length() - 1 : letters.length();
            byte[] bytes = Base64.getDecoder().decode(letters.substring(0, useful));
            return new String(bytes, StandardCharsets.ISO_8859_1);
        }
        if (encoding == 0) {
            return body;
        }
        StringBuilder b = new StringBuilder();
        Matcher m = QUOTED_PRINTABLE.matcher(body);
        while (m.find()) {
            if (m.group("hex") != null) {
                b.append((char) Integer.parseInt(m.group("hex"), 16));
            } else if (m.group("self") != null) {
                b.append(m.group("self"));
            }
        }
        return b.toString();
    }

    private static String encoded(Node n) {
        if (n.encoding == 1) {
            byte[] ends = {'\r', '\n'};
            byte[] bytes = n.content.getBytes(StandardCharsets.ISO_8859_1);
            String letters = Base64.getMimeEncoder(24, ends).encodeToString(bytes);
            return letters.isEmpty() ? "" : letters + "\r\n";
        }
        return n.encoding == 2 ? quotedPrintable(n.content) : n.content;
    }

    private static String quotedPrintable(String content) {
        StringBuilder all = new StringBuilder();
        String line = "";
        Matcher m = TO_QUOTE.matcher(content);
        while (m.find()) {
            if (m.group("end") != null) {
                all.append(line).append("\r\n");
                line = "";
                continue;
            }
            String number = String.format("=%02X", (int) m.group().charAt(0));
            String next = m.group("self") != null ? m.group() : number;
            if (line.length() + next.length() > 30) {
                all.append(line).append("=\r\n");
                line = "";
            }
            line += line.isEmpty() && next.equals("-") ? number : next;
        }
        return all.append(line).toString();
    }
}
