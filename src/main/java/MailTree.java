import java.util.NoSuchElementException;

/**
 * Reads any bytes as a message of mail, tells what was read, and writes it again in one plain form.
 *
 * All rows are made once, in the constructor, and used again by every call, so that no call makes an object
 * but for the exceptions that it throws.
 */
public final class MailTree {
    private static final int MESSAGE_ROOM = 320;
    private static final int WRITTEN_ROOM = 700;
    private static final int ENTITY_ROOM = 16;
    private static final int FIELD_ROOM = 8;
    private static final int BOUNDARY_ROOM = 20;
    private static final int DEEPEST = 4;

    private static final int LEAF = 0;
    private static final int MULTIPART = 1;
    private static final int ENCLOSING = 2;

    private static final int UNCODED = 0;
    private static final int BASE64 = 1;
    private static final int QUOTED_PRINTABLE = 2;

    private static final int NO_MARK = 0;
    private static final int DELIMITER = 1;
    private static final int CLOSING = 2;

    private static final int BASE64_LINE = 24;
    private static final int QUOTED_LINE = 30;

    private static final int TAB = 9;
    private static final int LF = 10;
    private static final int CR = 13;
    private static final int BLANK = 32;

    private static final String LINE_END = "\r\n";
    private static final String DASHES = "--";
    private static final String NO_ATOM = "()<>@,;:\\\"/[]?=";
    private static final String BASE64_LETTERS = "ABCDEFGHIJKLMNOPQRSTUVWXYZabcdefghijklmnopqrstuvwxyz0123456789+/";
    private static final String HEX_DIGITS = "0123456789ABCDEF";

    private final Bytes message;
    private final Bytes latest;
    private final Tree tree;
    private final Printer printer;

    public MailTree() {
        message = new Bytes(MESSAGE_ROOM);
        latest = new Bytes(WRITTEN_ROOM);
        tree = new Tree();
        printer = new Printer(tree);
    }

    public boolean feed(long v, int n) {
        if (n < 1 || n > 8 || message.size + n > MESSAGE_ROOM) {
            return false;
        }
        for (int i = 0; i < n; i++) {
            message.put((int) (v >>> (8 * i)) & 255);
        }
        return true;
    }

    public int clear() {
        int size = message.size;
        message.empty();
        return size;
    }

    public int read() {
        tree.start(message);
        tree.readEntity(0, message.size, 1, -1);
        return tree.count;
    }

    public int entities() {
        return tree.count;
    }

    public int look(int e, int what) throws NoSuchElementException, IllegalArgumentException {
        Entity entity = tree.entityAt(e);
        switch (what) {
            case 0: return entity.kind;
            case 1: return entity.depth;
            case 2: return entity.parent;
            case 3: return entity.fieldCount;
            case 4: return entity.encoding;
            case 5: return entity.contentSize;
            case 6: return entity.parts;
            case 7: return entity.begin;
            case 8: return entity.body;
            case 9: return entity.end;
            default: throw new IllegalArgumentException("no such thing to look at");
        }
    }

    public int length(int e, int f, int what) throws NoSuchElementException, IllegalArgumentException {
        Field field = tree.entityAt(e).fieldAt(f);
        switch (what) {
            case 0: return field.nameSize;
            case 1: return field.valueSize;
            default: throw new IllegalArgumentException("neither name nor value");
        }
    }

    public int letter(int e, int f, int what, int i) throws NoSuchElementException, IllegalArgumentException {
        Field field = tree.entityAt(e).fieldAt(f);
        switch (what) {
            case 0: return byteOf(tree.source, field.nameBegin, field.nameSize, i);
            case 1: return byteOf(tree.values, field.valueBegin, field.valueSize, i);
            default: throw new IllegalArgumentException("neither name nor value");
        }
    }

    public int content(int e, int i) throws NoSuchElementException {
        Entity entity = tree.entityAt(e);
        return byteOf(tree.contents, entity.contentBegin, entity.contentSize, i);
    }

    public int boundary(int e, int i) throws NoSuchElementException {
        Entity entity = tree.entityAt(e);
        if (i < 0 || i >= entity.boundarySize) {
            return -1;
        }
        return tree.boundaries.at(entity.boundaryBegin + i);
    }

    public int write() throws IllegalStateException, UnsupportedOperationException {
        if (tree.count == 0) {
            throw new IllegalStateException("nothing was read");
        }
        Bytes draft = printer.draft;
        draft.empty();
        printer.printEntity(0, 1);
        if (draft.spilled) {
            throw new UnsupportedOperationException("too much to write");
        }
        latest.empty();
        latest.putRange(draft, 0, draft.size);
        return latest.size;
    }

    public int written(int i) {
        return latest.at(i);
    }

    public int again() {
        message.empty();
        message.putRange(latest, 0, Math.min(latest.size, MESSAGE_ROOM));
        return message.size;
    }

    private static int byteOf(Bytes row, int begin, int size, int i) {
        if (i < 0 || i >= size) {
            throw new NoSuchElementException("no such byte");
        }
        return row.at(begin + i);
    }

    private static boolean isBlank(int b) {
        return b == BLANK || b == TAB;
    }

    private static boolean isNameByte(int b) {
        return b >= 33 && b <= 126 && b != ':';
    }

    private static boolean isAtomByte(int b) {
        return b >= 33 && b <= 126 && NO_ATOM.indexOf((char) b) < 0;
    }

    private static int small(int b) {
        return b >= 'A' && b <= 'Z' ? b + ('a' - 'A') : b;
    }

    private static int hexDigit(int b) {
        if (b >= '0' && b <= '9') {
            return b - '0';
        }
        int letter = small(b);
        return letter >= 'a' && letter <= 'f' ? letter - 'a' + 10 : -1;
    }

    private static int base64Digit(int b) {
        return b < 0 ? -1 : BASE64_LETTERS.indexOf((char) b);
    }

    /** A row of bytes 0 .. 255 that is filled again and again. */
    private static final class Bytes {
        final int[] cells;
        int size;
        boolean spilled;

        Bytes(int room) {
            cells = new int[room];
            size = 0;
            spilled = false;
        }

        void empty() {
            size = 0;
            spilled = false;
        }

        void put(int b) {
            if (size < 0 || size >= cells.length) {
                spilled = true;
                return;
            }
            cells[size] = b;
            size++;
        }

        void putRange(Bytes from, int begin, int end) {
            for (int i = begin; i < end; i++) {
                put(from.at(i));
            }
        }

        void putText(String text) {
            for (int i = 0; i < text.length(); i++) {
                put(text.charAt(i));
            }
        }

        int at(int i) {
            return i >= 0 && i < size && i < cells.length ? cells[i] : -1;
        }

        boolean has(String text, int begin, int end) {
            if (end - begin < text.length()) {
                return false;
            }
            for (int i = 0; i < text.length(); i++) {
                if (at(begin + i) != text.charAt(i)) {
                    return false;
                }
            }
            return true;
        }

        /** Whether the range is this word, which is given in small letters, whatever its capital letters. */
        boolean spells(String word, int begin, int end) {
            if (end - begin != word.length()) {
                return false;
            }
            for (int i = 0; i < word.length(); i++) {
                if (small(at(begin + i)) != word.charAt(i)) {
                    return false;
                }
            }
            return true;
        }

        int skipBlanks(int begin, int end) {
            for (int i = begin; i < end; i++) {
                if (!isBlank(at(i))) {
                    return i;
                }
            }
            return end;
        }

        int lineEnd(int begin, int end) {
            for (int i = begin; i < end; i++) {
                if (at(i) == LF) {
                    return i + 1;
                }
            }
            return end;
        }

        /** A CR counts to the line's end only before a LF: a line cut off by the range's end keeps it. */
        int textEnd(int begin, int lineEnd) {
            if (lineEnd <= begin || at(lineEnd - 1) != LF) {
                return lineEnd;
            }
            boolean withCr = lineEnd - 2 >= begin && at(lineEnd - 2) == CR;
            return withCr ? lineEnd - 2 : lineEnd - 1;
        }

        /** How many bytes the line's end at this place has: 0 when there is none. */
        int lineEndSize(int place, int end) {
            if (place < end && at(place) == LF) {
                return 1;
            }
            boolean withCr = place + 1 < end && at(place) == CR && at(place + 1) == LF;
            return withCr ? 2 : 0;
        }
    }

    /** Where the name (in the message) and the value (in the row of values) of a field stand. */
    private static final class Field {
        int nameBegin;
        int nameSize;
        int valueBegin;
        int valueSize;
    }

    private static final class Entity {
        int kind;
        int depth;
        int parent;
        int encoding;
        int parts;
        int begin;
        int body;
        int end;
        int contentBegin;
        int contentSize;
        int boundaryBegin;
        int boundarySize;
        int fieldCount;
        final Field[] fields;

        Entity() {
            fields = new Field[FIELD_ROOM];
            for (int i = 0; i < FIELD_ROOM; i++) {
                fields[i] = new Field();
            }
        }

        void start(int from, int to, int level, int whole) {
            kind = LEAF;
            depth = level;
            parent = whole;
            encoding = UNCODED;
            parts = 0;
            begin = from;
            body = from;
            end = to;
            contentBegin = 0;
            contentSize = 0;
            boundaryBegin = 0;
            boundarySize = 0;
            fieldCount = 0;
        }

        Field fieldAt(int f) {
            if (f < 0 || f >= fieldCount || f >= FIELD_ROOM) {
                throw new NoSuchElementException("no such field");
            }
            return fields[f];
        }
    }

    /** Goes through one value, piece by piece; the atom or quoted one taken latest stands in word. */
    private static final class Scanner {
        final Bytes values;
        final Bytes word;
        int place;
        int end;
        boolean namedBoundary;

        Scanner(Bytes row) {
            values = row;
            word = new Bytes(MESSAGE_ROOM);
        }

        void start(Field field) {
            place = field.valueBegin;
            end = field.valueBegin + field.valueSize;
        }

        void skipSpace() {
            int open = 0;
            for (; place < end; place++) {
                int b = values.at(place);
                if (open == 0 && b != '(' && !isBlank(b)) {
                    return;
                }
                if (b == '(') {
                    open++;
                } else if (b == ')') {
                    open--;
                } else if (b == '\\') {
                    place++;
                }
            }
            // A "\" as the last byte has led one place too far.
            place = end;
        }

        boolean take(int sign) {
            if (place >= end || values.at(place) != sign) {
                return false;
            }
            place++;
            return true;
        }

        boolean takeAtom() {
            word.empty();
            for (; place < end && isAtomByte(values.at(place)); place++) {
                word.put(values.at(place));
            }
            return word.size > 0;
        }

        boolean takeQuoted() {
            word.empty();
            if (!take('"')) {
                return false;
            }
            for (; place < end; place++) {
                if (values.at(place) == '"') {
                    place++;
                    return true;
                }
                if (values.at(place) == '\\' && place + 1 < end) {
                    place++;
                }
                word.put(values.at(place));
            }
            return false;
        }

        boolean takeParameter() {
            namedBoundary = false;
            if (!take(';')) {
                return false;
            }
            skipSpace();
            if (!takeAtom()) {
                return false;
            }
            namedBoundary = wordIs("boundary");
            skipSpace();
            if (!take('=')) {
                return false;
            }
            skipSpace();
            if (!takeAtom() && !takeQuoted()) {
                return false;
            }
            skipSpace();
            return true;
        }

        boolean wordIs(String text) {
            return word.spells(text, 0, word.size);
        }

        boolean wordCanBeBoundary() {
            if (word.size < 1 || word.size > BOUNDARY_ROOM || isBlank(word.at(word.size - 1))) {
                return false;
            }
            for (int i = 0; i < word.size; i++) {
                if (word.at(i) < 32 || word.at(i) > 126) {
                    return false;
                }
            }
            return true;
        }
    }

    /**
     * What was read. It keeps the bytes that it was read from, because the message may change afterwards.
     * Fields and leaves never share a byte of the message, so the values of all fields, and the contents of
     * all leaves, have room in one row as long as the message.
     */
    private static final class Tree {
        final Bytes source;
        final Bytes values;
        final Bytes contents;
        final Bytes boundaries;
        final Entity[] entities;
        final Scanner scanner;
        final Decoder decoder;
        int count;

        Tree() {
            source = new Bytes(MESSAGE_ROOM);
            values = new Bytes(MESSAGE_ROOM);
            contents = new Bytes(MESSAGE_ROOM);
            boundaries = new Bytes(ENTITY_ROOM * BOUNDARY_ROOM);
            scanner = new Scanner(values);
            decoder = new Decoder(source, contents);
            entities = new Entity[ENTITY_ROOM];
            for (int i = 0; i < ENTITY_ROOM; i++) {
                entities[i] = new Entity();
            }
            count = 0;
        }

        Entity entityAt(int e) {
            if (e < 0 || e >= count || e >= ENTITY_ROOM) {
                throw new NoSuchElementException("no such entity");
            }
            return entities[e];
        }

        void start(Bytes message) {
            source.empty();
            source.putRange(message, 0, message.size);
            values.empty();
            contents.empty();
            boundaries.empty();
            count = 0;
        }

        /** Reads an entity and all in it; the last argument is the number of what it is part of. */
        void readEntity(int begin, int end, int depth, int parent) {
            if (count < 0 || count >= ENTITY_ROOM || depth > DEEPEST) {
                return;
            }
            int number = count;
            Entity entity = entities[number];
            count++;
            entity.start(begin, end, depth, parent);
            if (parent >= 0 && parent < number) {
                entities[parent].parts++;
            }
            entity.body = readFields(entity);
            trimValues(entity);
            readEncoding(entity);
            if (depth < DEEPEST && readKind(entity)) {
                readBoundary(entity);
            }
            if (entity.kind == LEAF) {
                decoder.decode(entity);
            } else if (entity.kind == ENCLOSING) {
                readEntity(entity.body, end, depth + 1, number);
            } else {
                readParts(entity, number);
            }
        }

        /** Answers where the body begins. */
        private int readFields(Entity entity) {
            int place = entity.begin;
            for (int turn = 0; turn < MESSAGE_ROOM && place < entity.end; turn++) {
                int next = source.lineEnd(place, entity.end);
                int textEnd = source.textEnd(place, next);
                if (textEnd == place) {
                    return next;
                }
                boolean taken = isBlank(source.at(place))
                        ? goOnWithField(entity, place, textEnd)
                        : beginField(entity, place, textEnd);
                if (!taken) {
                    return place;
                }
                place = next;
            }
            return place;
        }

        private boolean goOnWithField(Entity entity, int begin, int end) {
            int last = entity.fieldCount - 1;
            if (last < 0 || last >= FIELD_ROOM) {
                return false;
            }
            values.putRange(source, begin, end);
            entity.fields[last].valueSize += end - begin;
            return true;
        }

        private boolean beginField(Entity entity, int begin, int end) {
            int colon = begin;
            for (int i = begin; i < end && isNameByte(source.at(i)); i++) {
                colon = i + 1;
            }
            boolean named = colon > begin && colon < end && source.at(colon) == ':';
            int f = entity.fieldCount;
            if (!named || f < 0 || f >= FIELD_ROOM) {
                return false;
            }
            Field field = entity.fields[f];
            entity.fieldCount++;
            field.nameBegin = begin;
            field.nameSize = colon - begin;
            field.valueBegin = values.size;
            field.valueSize = end - colon - 1;
            values.putRange(source, colon + 1, end);
            return true;
        }

        /** Only a whole value can be trimmed: the blanks where two of its lines meet stay. */
        private void trimValues(Entity entity) {
            for (int f = 0; f < entity.fieldCount && f < FIELD_ROOM; f++) {
                Field field = entity.fields[f];
                int end = field.valueBegin + field.valueSize;
                int begin = values.skipBlanks(field.valueBegin, end);
                for (int i = end; i > begin && isBlank(values.at(i - 1)); i--) {
                    end = i - 1;
                }
                field.valueBegin = begin;
                field.valueSize = end - begin;
            }
        }

        /** The first field of this name, or null. */
        private Field fieldNamed(Entity entity, String name) {
            for (int f = 0; f < entity.fieldCount && f < FIELD_ROOM; f++) {
                Field field = entity.fields[f];
                if (source.spells(name, field.nameBegin, field.nameBegin + field.nameSize)) {
                    return field;
                }
            }
            return null;
        }

        private void readEncoding(Entity entity) {
            Field field = fieldNamed(entity, "content-transfer-encoding");
            if (field == null) {
                return;
            }
            scanner.start(field);
            scanner.skipSpace();
            if (!scanner.takeAtom()) {
                return;
            }
            scanner.skipSpace();
            if (scanner.place < scanner.end) {
                return;
            }
            if (scanner.wordIs("base64")) {
                entity.encoding = BASE64;
            } else if (scanner.wordIs("quoted-printable")) {
                entity.encoding = QUOTED_PRINTABLE;
            }
        }

        /** Answers whether a boundary would make it a multipart; the scanner then stands before the parameters. */
        private boolean readKind(Entity entity) {
            Field field = fieldNamed(entity, "content-type");
            if (field == null) {
                return false;
            }
            scanner.start(field);
            scanner.skipSpace();
            if (!scanner.takeAtom()) {
                return false;
            }
            boolean isMultipart = scanner.wordIs("multipart");
            boolean isMessage = scanner.wordIs("message");
            scanner.skipSpace();
            if (!scanner.take('/')) {
                return false;
            }
            scanner.skipSpace();
            if (!scanner.takeAtom()) {
                return false;
            }
            if (isMessage && scanner.wordIs("rfc822")) {
                entity.kind = ENCLOSING;
            }
            scanner.skipSpace();
            return isMultipart;
        }

        /** Only the first parameter boundary counts, even if it can't be one and a later one could. */
        private void readBoundary(Entity entity) {
            boolean found = false;
            for (int turn = 0; turn < MESSAGE_ROOM && !found; turn++) {
                if (!scanner.takeParameter()) {
                    return;
                }
                found = scanner.namedBoundary;
            }
            if (found && scanner.wordCanBeBoundary()) {
                entity.kind = MULTIPART;
                entity.boundaryBegin = boundaries.size;
                entity.boundarySize = scanner.word.size;
                boundaries.putRange(scanner.word, 0, scanner.word.size);
            }
        }

        private void readParts(Entity whole, int number) {
            int partBegin = -1;
            int textEndBefore = whole.body;
            int place = whole.body;
            for (int turn = 0; turn < MESSAGE_ROOM && place < whole.end; turn++) {
                int next = source.lineEnd(place, whole.end);
                int textEnd = source.textEnd(place, next);
                int mark = markOf(whole, place, textEnd);
                if (mark != NO_MARK && partBegin >= 0) {
                    // Right behind its delimiter's own line a part is empty, and that line's text ends before it.
                    readEntity(partBegin, Math.max(partBegin, textEndBefore), whole.depth + 1, number);
                }
                if (mark == CLOSING) {
                    return;
                }
                if (mark == DELIMITER) {
                    partBegin = next;
                }
                textEndBefore = textEnd;
                place = next;
            }
            if (partBegin >= 0) {
                readEntity(partBegin, whole.end, whole.depth + 1, number);
            }
        }

        private int markOf(Entity whole, int begin, int end) {
            int behind = begin + DASHES.length() + whole.boundarySize;
            if (behind > end || !source.has(DASHES, begin, end)) {
                return NO_MARK;
            }
            for (int i = 0; i < whole.boundarySize; i++) {
                if (source.at(begin + DASHES.length() + i) != boundaries.at(whole.boundaryBegin + i)) {
                    return NO_MARK;
                }
            }
            if (source.skipBlanks(behind, end) == end) {
                return DELIMITER;
            }
            boolean closing = source.has(DASHES, behind, end)
                    && source.skipBlanks(behind + DASHES.length(), end) == end;
            return closing ? CLOSING : NO_MARK;
        }
    }

    /** Puts the contents of leaves, out of their transfer encodings, into a row. */
    private static final class Decoder {
        final Bytes source;
        final Bytes contents;

        Decoder(Bytes from, Bytes into) {
            source = from;
            contents = into;
        }

        void decode(Entity leaf) {
            leaf.contentBegin = contents.size;
            if (leaf.encoding == BASE64) {
                decodeBase64(leaf.body, leaf.end);
            } else if (leaf.encoding == QUOTED_PRINTABLE) {
                decodeQuotedPrintable(leaf.body, leaf.end);
            } else {
                contents.putRange(source, leaf.body, leaf.end);
            }
            leaf.contentSize = contents.size - leaf.contentBegin;
        }

        private void decodeBase64(int begin, int end) {
            int bits = 0;
            int waiting = 0;
            for (int i = begin; i < end && source.at(i) != '='; i++) {
                int digit = base64Digit(source.at(i));
                if (digit >= 0) {
                    bits = (bits << 6 | digit) & 0xFFFF;
                    waiting += 6;
                }
                if (waiting >= 8) {
                    waiting -= 8;
                    contents.put(bits >> waiting & 255);
                }
            }
        }

        private void decodeQuotedPrintable(int begin, int end) {
            int place = begin;
            for (int turn = 0; turn < MESSAGE_ROOM && place < end; turn++) {
                int b = source.at(place);
                if (b == '=') {
                    place = decodeEqualSign(place, end);
                } else if (isBlank(b)) {
                    place = decodeBlanks(place, end);
                } else {
                    contents.put(b);
                    place++;
                }
            }
        }

        /** Answers the place behind what the "=" takes with it. */
        private int decodeEqualSign(int place, int end) {
            if (place + 2 < end) {
                int high = hexDigit(source.at(place + 1));
                int low = hexDigit(source.at(place + 2));
                if (high >= 0 && low >= 0) {
                    contents.put(16 * high + low);
                    return place + 3;
                }
            }
            int behindBlanks = source.skipBlanks(place + 1, end);
            int lineEndSize = source.lineEndSize(behindBlanks, end);
            if (lineEndSize > 0) {
                return behindBlanks + lineEndSize;
            }
            contents.put('=');
            return place + 1;
        }

        /** Answers the place behind all the blanks that begin here. */
        private int decodeBlanks(int place, int end) {
            int behind = source.skipBlanks(place, end);
            if (behind < end && source.lineEndSize(behind, end) == 0) {
                contents.putRange(source, place, behind);
            }
            return behind;
        }
    }

    /** Writes a tree into the draft, which tells by its spilling that there was no room for all. */
    private static final class Printer {
        final Tree tree;
        final Bytes draft;

        Printer(Tree from) {
            tree = from;
            draft = new Bytes(WRITTEN_ROOM);
        }

        void printEntity(int e, int depth) {
            if (e < 0 || e >= tree.count || e >= ENTITY_ROOM || depth > DEEPEST) {
                return;
            }
            Entity entity = tree.entities[e];
            printFields(entity);
            draft.putText(LINE_END);
            if (entity.kind == LEAF) {
                printContent(entity);
                return;
            }
            boolean multipart = entity.kind == MULTIPART;
            for (int part = e + 1; part < tree.count && part < ENTITY_ROOM; part++) {
                if (tree.entities[part].parent != e) {
                    continue;
                }
                if (multipart) {
                    printMark(entity, LINE_END);
                }
                printEntity(part, depth + 1);
                if (multipart) {
                    draft.putText(LINE_END);
                }
            }
            if (multipart) {
                printMark(entity, DASHES);
                draft.putText(LINE_END);
            }
        }

        private void printFields(Entity entity) {
            for (int f = 0; f < entity.fieldCount && f < FIELD_ROOM; f++) {
                Field field = entity.fields[f];
                draft.putRange(tree.source, field.nameBegin, field.nameBegin + field.nameSize);
                draft.putText(": ");
                draft.putRange(tree.values, field.valueBegin, field.valueBegin + field.valueSize);
                draft.putText(LINE_END);
            }
        }

        private void printMark(Entity whole, String behind) {
            draft.putText(DASHES);
            draft.putRange(tree.boundaries, whole.boundaryBegin, whole.boundaryBegin + whole.boundarySize);
            draft.putText(behind);
        }

        private void printContent(Entity leaf) {
            int begin = leaf.contentBegin;
            int end = leaf.contentBegin + leaf.contentSize;
            if (leaf.encoding == BASE64) {
                printBase64(begin, end);
            } else if (leaf.encoding == QUOTED_PRINTABLE) {
                printQuotedPrintable(begin, end);
            } else {
                draft.putRange(tree.contents, begin, end);
            }
        }

        private void printBase64(int begin, int end) {
            int column = 0;
            for (int i = begin; i < end; i += 3) {
                printThreeBytes(i, Math.min(3, end - i));
                column += 4;
                if (column == BASE64_LINE || i + 3 >= end) {
                    draft.putText(LINE_END);
                    column = 0;
                }
            }
        }

        private void printThreeBytes(int begin, int given) {
            int bits = 0;
            for (int i = 0; i < 3; i++) {
                bits = bits << 8 | (i < given ? tree.contents.at(begin + i) : 0);
            }
            for (int i = 0; i < 4; i++) {
                int digit = bits >> (18 - 6 * i) & 63;
                draft.put(i <= given ? BASE64_LETTERS.charAt(digit) : '=');
            }
        }

        private void printQuotedPrintable(int begin, int end) {
            int column = 0;
            int place = begin;
            for (int turn = 0; turn < MESSAGE_ROOM && place < end; turn++) {
                if (tree.contents.has(LINE_END, place, end)) {
                    draft.putText(LINE_END);
                    column = 0;
                    place += 2;
                    continue;
                }
                int b = tree.contents.at(place);
                boolean plain = isPlain(place, end);
                if (column + (plain ? 1 : 3) > QUOTED_LINE) {
                    draft.put('=');
                    draft.putText(LINE_END);
                    column = 0;
                }
                // Looked at only now, because a line that was just broken puts a "-" at a line's beginning.
                if (plain && (b != '-' || column > 0)) {
                    draft.put(b);
                    column++;
                } else {
                    printEscaped(b);
                    column += 3;
                }
                place++;
            }
        }

        private boolean isPlain(int place, int end) {
            int b = tree.contents.at(place);
            if (isBlank(b)) {
                return place + 1 < end && !tree.contents.has(LINE_END, place + 1, end);
            }
            return b >= 33 && b <= 126 && b != '=';
        }

        private void printEscaped(int b) {
            draft.put('=');
            draft.put(HEX_DIGITS.charAt(b >> 4 & 15));
            draft.put(HEX_DIGITS.charAt(b & 15));
        }
    }
}
