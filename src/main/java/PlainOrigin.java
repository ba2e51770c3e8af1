import java.util.NoSuchElementException;

/**
 * The core of a server of HTTP/1.1: bytes come in pieces of any size, are cut into requests, and
 * each request is answered from a site of eight resources, in order, until the connection is closed.
 */
public final class PlainOrigin {
    public static final int NONE = -1;

    private static final int RESOURCES = 8;
    private static final int MOST_BODY_BYTES = 200;
    private static final int MOST_LINE_BYTES = 80;
    private static final int MOST_FIELDS = 12;
    private static final int MOST_TRAILERS = 4;
    private static final int MOST_KEPT_BYTES = 2000;
    private static final int BYTES_A_WORD = 8;

    private static final int TAB = 9;
    private static final int LF = 10;
    private static final int CR = 13;
    private static final int SPACE = 32;
    private static final int QUOTE = 34;
    private static final int DELETED = 127;

    // The stages are the answers of reading(); NONE stands for a closed connection.
    private static final int REQUEST_LINE = 0;
    private static final int FIELD_LINES = 1;
    private static final int COUNTED_BODY = 2;
    private static final int CHUNK_LINE = 3;
    private static final int CHUNK_BYTES = 4;
    private static final int TRAILER_LINES = 5;

    // What a byte brings about: one of these, or the number of a response that is due at once.
    private static final int NOTHING = 0;
    private static final int LINE_ENDED = 1;
    private static final int HEAD_ENDED = 2;
    private static final int REQUEST_ENDED = 3;
    private static final int CONTINUE = 100;

    private static final String TOKEN_SIGNS = "!#$%&'*+-.^_`|~";
    private static final String TARGET_SIGNS = "-._~!$&'()*+,;=:@/?";
    private static final String HOST_SIGNS = ".-:";
    private static final String ALLOWED = "GET, HEAD, PUT, POST, DELETE, OPTIONS";

    private static final Method[] METHODS = Method.values();

    private final Site site;
    private final Reader reader;
    private final Answer answer;
    private final Outbox outbox;
    private int latest;

    public PlainOrigin() {
        site = new Site();
        reader = new Reader();
        answer = new Answer();
        outbox = new Outbox();
        latest = NONE;
    }

    public int feed(long bytes, int n) throws IllegalArgumentException {
        if (n < 0 || n > BYTES_A_WORD) {
            throw new IllegalArgumentException("n is not 0 .. 8");
        }
        int responses = 0;
        for (int k = 0; k < n; k++) {
            int event = reader.take((int) (bytes >>> (8 * k)) & 255);
            if (event == LINE_ENDED) {
                event = reader.endLine();
            }
            if (event == HEAD_ENDED) {
                event = reader.endHead();
            }
            if (event == NOTHING) {
                continue;
            }
            if (event == REQUEST_ENDED) {
                answer.decide(reader.request, site);
            } else {
                answer.begin(event);
            }
            send(event);
            responses++;
        }
        return responses;
    }

    public boolean isOpen() {
        return reader.stage != NONE;
    }

    public void connect() {
        reader.restart();
        outbox.empty();
        latest = NONE;
    }

    public int sent() {
        return outbox.total;
    }

    public long out(int i) throws IndexOutOfBoundsException {
        if (i < 0 || i >= MOST_KEPT_BYTES / BYTES_A_WORD) {
            throw new IndexOutOfBoundsException("i is not 0 .. 249");
        }
        long word = 0;
        for (int k = BYTES_A_WORD - 1; k >= 0; k--) {
            int b = outbox.kept.get(BYTES_A_WORD * i + k);
            word = word << 8 | (b == NONE ? 0 : b);
        }
        return word;
    }

    public int drain() {
        int taken = outbox.total;
        outbox.empty();
        return taken;
    }

    public int status() {
        return latest;
    }

    public int reading() {
        return reader.stage;
    }

    public int size(int resource) throws IllegalArgumentException {
        Resource asked = resourceOf(resource);
        return asked.isThere() ? asked.content.count : NONE;
    }

    public int at(int resource, int i) throws IllegalArgumentException, NoSuchElementException {
        Resource asked = resourceOf(resource);
        if (!asked.isThere() || i < 0 || i >= asked.content.count) {
            throw new NoSuchElementException("there is no such byte");
        }
        return asked.content.get(i);
    }

    public int mark(int resource) throws IllegalArgumentException {
        return resourceOf(resource).tag;
    }

    public int changes() {
        return site.changeCount;
    }

    private Resource resourceOf(int resource) {
        if (resource < 0 || resource >= RESOURCES) {
            throw new IllegalArgumentException("there is no such resource");
        }
        return site.resources[resource];
    }

    private void send(int event) {
        boolean ended = event == REQUEST_ENDED;
        // What is sent before a request has ended is a 100 or an error, and each error closes.
        answer.closes = ended ? reader.request.isLast : event != CONTINUE;
        answer.keepsAlive = !answer.closes && reader.request.isOld();
        outbox.write(answer);
        latest = answer.number;
        if (answer.closes) {
            reader.stage = NONE;
        } else if (ended) {
            reader.restart();
        }
    }

    private enum Method {
        GET("GET"),
        HEAD("HEAD"),
        PUT("PUT"),
        POST("POST"),
        DELETE("DELETE"),
        OPTIONS("OPTIONS"),
        TRACE("TRACE");

        private final String word;

        Method(String word) {
            this.word = word;
        }

        static Method find(Bytes text, int from, int to) {
            for (int k = 0; k < METHODS.length; k++) {
                if (Text.isExactly(text, from, to, METHODS[k].word)) {
                    return METHODS[k];
                }
            }
            return null;
        }
    }

    /** A row of bytes 0 .. 255 with a bound; what would go beyond the bound is dropped. */
    private static final class Bytes {
        private final int[] cells;
        private int count;

        Bytes(int most) {
            cells = new int[most];
        }

        void clear() {
            count = 0;
        }

        void add(int b) {
            if (count < cells.length) {
                cells[count] = b;
                count++;
            }
        }

        void addAll(Bytes other) {
            for (int i = 0; i < other.count; i++) {
                add(other.get(i));
            }
        }

        int get(int i) {
            return i >= 0 && i < count ? cells[i] : NONE;
        }
    }

    /** What can be asked of bytes and of the part of a row from one index up to, not including, another. */
    private static final class Text {
        private Text() {
        }

        static boolean isDigit(int b) {
            return b >= '0' && b <= '9';
        }

        static boolean isLetterDigitOr(int b, String signs) {
            return b >= 'a' && b <= 'z' || b >= 'A' && b <= 'Z' || isDigit(b)
                    || b >= 0 && signs.indexOf((char) b) >= 0;
        }

        static boolean isBlank(int b) {
            return b == SPACE || b == TAB;
        }

        static boolean isControl(int b) {
            return b < SPACE && b != TAB || b == DELETED;
        }

        static int lower(int b) {
            return b >= 'A' && b <= 'Z' ? b + ('a' - 'A') : b;
        }

        static int hexDigit(int b) {
            if (b >= '0' && b <= '9') {
                return b - '0';
            }
            if (b >= 'a' && b <= 'f') {
                return b - 'a' + 10;
            }
            return b >= 'A' && b <= 'F' ? b - 'A' + 10 : NONE;
        }

        /** The index of the first such byte, or the end when there is none. */
        static int find(Bytes text, int b, int from, int to) {
            for (int i = from; i < to; i++) {
                if (text.get(i) == b) {
                    return i;
                }
            }
            return to;
        }

        static int skipBlanks(Bytes text, int from, int to) {
            for (int i = from; i < to; i++) {
                if (!isBlank(text.get(i))) {
                    return i;
                }
            }
            return to;
        }

        static int dropBlanks(Bytes text, int from, int to) {
            for (int i = to; i > from; i--) {
                if (!isBlank(text.get(i - 1))) {
                    return i;
                }
            }
            return from;
        }

        static boolean isExactly(Bytes text, int from, int to, String word) {
            if (to - from != word.length()) {
                return false;
            }
            for (int k = 0; k < word.length(); k++) {
                if (text.get(from + k) != word.charAt(k)) {
                    return false;
                }
            }
            return true;
        }

        /** Whether it is the word, which is written in lower case, in upper or lower case. */
        static boolean isWord(Bytes text, int from, int to, String word) {
            if (to - from != word.length()) {
                return false;
            }
            for (int k = 0; k < word.length(); k++) {
                if (lower(text.get(from + k)) != word.charAt(k)) {
                    return false;
                }
            }
            return true;
        }

        static boolean isToken(Bytes text, int from, int to) {
            for (int i = from; i < to; i++) {
                if (!isLetterDigitOr(text.get(i), TOKEN_SIGNS)) {
                    return false;
                }
            }
            return from < to;
        }

        static boolean isTarget(Bytes text, int from, int to) {
            for (int i = from; i < to; i++) {
                int b = text.get(i);
                boolean fits = b == '%' ? isEscape(text, i, to) : isLetterDigitOr(b, TARGET_SIGNS);
                if (!fits) {
                    return false;
                }
            }
            return from < to;
        }

        static boolean isEscape(Bytes text, int percent, int to) {
            return percent + 2 < to
                    && hexDigit(text.get(percent + 1)) != NONE
                    && hexDigit(text.get(percent + 2)) != NONE;
        }

        static boolean isVersion(Bytes text, int from, int to) {
            return to - from == 8
                    && isExactly(text, from, from + 5, "HTTP/")
                    && isDigit(text.get(from + 5))
                    && text.get(from + 6) == '.'
                    && isDigit(text.get(from + 7));
        }

        static boolean isHost(Bytes text, int from, int to) {
            for (int i = from; i < to; i++) {
                if (!isLetterDigitOr(text.get(i), HOST_SIGNS)) {
                    return false;
                }
            }
            return true;
        }

        static boolean hasControl(Bytes text, int from, int to) {
            for (int i = from; i < to; i++) {
                if (isControl(text.get(i))) {
                    return true;
                }
            }
            return false;
        }

        /** Where the colon of a field line stands, or NONE when the line is no field. */
        static int colonOf(Bytes line) {
            int end = line.count;
            int colon = find(line, ':', 0, end);
            boolean fits = colon < end && isToken(line, 0, colon) && !hasControl(line, colon + 1, end);
            return fits ? colon : NONE;
        }

        /** The number that 1 to 9 digits tell, or NONE when it is anything else. */
        static int number(Bytes text, int from, int to) {
            if (to - from < 1 || to - from > 9) {
                return NONE;
            }
            int value = 0;
            for (int i = from; i < to; i++) {
                int b = text.get(i);
                if (!isDigit(b)) {
                    return NONE;
                }
                value = 10 * value + (b - '0');
            }
            return value;
        }

        /** How many bytes a chunk's line tells, or NONE when it is no such line. */
        static int chunkSize(Bytes line) {
            int end = find(line, ';', 0, line.count);
            if (end < 1 || end > 3 || hasControl(line, end, line.count)) {
                return NONE;
            }
            int value = 0;
            for (int i = 0; i < end; i++) {
                int digit = hexDigit(line.get(i));
                if (digit == NONE) {
                    return NONE;
                }
                value = 16 * value + digit;
            }
            return value;
        }
    }

    /** The fields of one head, and the elements of those that were last asked for. */
    private static final class Fields {
        // A value of 78 bytes can have 39 elements of one byte each.
        private static final int MOST_ELEMENTS = MOST_FIELDS * MOST_LINE_BYTES / 2;

        private final Bytes text;
        private final int[] nameFrom;
        private final int[] nameTo;
        private final int[] valueFrom;
        private final int[] valueTo;
        private int fieldCount;
        private final int[] elementFrom;
        private final int[] elementTo;
        private int elementCount;

        Fields() {
            text = new Bytes(MOST_FIELDS * MOST_LINE_BYTES);
            nameFrom = new int[MOST_FIELDS];
            nameTo = new int[MOST_FIELDS];
            valueFrom = new int[MOST_FIELDS];
            valueTo = new int[MOST_FIELDS];
            elementFrom = new int[MOST_ELEMENTS];
            elementTo = new int[MOST_ELEMENTS];
        }

        void clear() {
            text.clear();
            fieldCount = 0;
            elementCount = 0;
        }

        int take(Bytes line) {
            int colon = Text.colonOf(line);
            if (colon == NONE) {
                return 400;
            }
            if (fieldCount >= MOST_FIELDS) {
                return 431;
            }
            int start = text.count;
            text.addAll(line);
            int first = Text.skipBlanks(text, start + colon + 1, text.count);
            nameFrom[fieldCount] = start;
            nameTo[fieldCount] = start + colon;
            valueFrom[fieldCount] = first;
            valueTo[fieldCount] = Text.dropBlanks(text, first, text.count);
            fieldCount++;
            return NOTHING;
        }

        int countOf(String name) {
            int found = 0;
            for (int f = 0; f < fieldCount; f++) {
                if (Text.isWord(text, nameFrom[f], nameTo[f], name)) {
                    found++;
                }
            }
            return found;
        }

        /** The index of the first field of this name, or NONE. */
        int indexOf(String name) {
            for (int f = 0; f < fieldCount; f++) {
                if (Text.isWord(text, nameFrom[f], nameTo[f], name)) {
                    return f;
                }
            }
            return NONE;
        }

        int gather(String name) {
            elementCount = 0;
            for (int f = 0; f < fieldCount; f++) {
                if (Text.isWord(text, nameFrom[f], nameTo[f], name)) {
                    cut(valueFrom[f], valueTo[f]);
                }
            }
            return elementCount;
        }

        private void cut(int from, int to) {
            int first = NONE;
            int end = NONE;
            for (int i = from; i <= to; i++) {
                int b = i < to ? text.get(i) : ',';
                if (b == ',') {
                    keepElement(first, end);
                    first = NONE;
                } else if (!Text.isBlank(b)) {
                    first = first == NONE ? i : first;
                    end = i + 1;
                }
            }
        }

        private void keepElement(int from, int to) {
            if (from != NONE && elementCount < MOST_ELEMENTS) {
                elementFrom[elementCount] = from;
                elementTo[elementCount] = to;
                elementCount++;
            }
        }

        boolean elementIs(int k, String word) {
            return k >= 0 && k < elementCount && Text.isWord(text, elementFrom[k], elementTo[k], word);
        }

        int elementNumber(int k) {
            return k >= 0 && k < elementCount ? Text.number(text, elementFrom[k], elementTo[k]) : NONE;
        }

        boolean elementIsTag(int k, int mark) {
            if (k < 0 || k >= elementCount) {
                return false;
            }
            int from = elementFrom[k];
            int to = elementTo[k];
            // A tag is compared as a text, so a leading 0 makes it another one.
            return text.get(from) == QUOTE
                    && text.get(to - 1) == QUOTE
                    && text.get(from + 1) != '0'
                    && Text.number(text, from + 1, to - 1) == mark;
        }

        boolean hasElement(String name, String word) {
            int found = gather(name);
            for (int k = 0; k < found; k++) {
                if (elementIs(k, word)) {
                    return true;
                }
            }
            return false;
        }
    }

    /** What has been read of one request; the checks answer NOTHING or the number of an error. */
    private static final class Request {
        private final Fields fields;
        private final Bytes path;
        private final Bytes body;
        private Method method;
        private int lastDigit;
        private boolean isChunked;
        private int bodyLength;
        private boolean awaitsContinue;
        private boolean isLast;

        Request() {
            fields = new Fields();
            path = new Bytes(MOST_LINE_BYTES);
            body = new Bytes(MOST_BODY_BYTES);
        }

        void clear() {
            fields.clear();
            path.clear();
            body.clear();
            method = null;
            lastDigit = 0;
            isChunked = false;
            bodyLength = 0;
            awaitsContinue = false;
            isLast = false;
        }

        boolean isOld() {
            return lastDigit == '0';
        }

        int takeLine(Bytes line) {
            int end = line.count;
            int first = Text.find(line, SPACE, 0, end);
            int second = Text.find(line, SPACE, first + 1, end);
            if (second >= end || Text.find(line, SPACE, second + 1, end) < end) {
                return 400;
            }
            if (first > 7 || !Text.isToken(line, 0, first)
                    || !Text.isVersion(line, second + 1, end)
                    || !Text.isTarget(line, first + 1, second)) {
                return 400;
            }
            if (line.get(end - 3) != '1') {
                return 505;
            }
            method = Method.find(line, 0, first);
            if (method == null) {
                return 501;
            }
            boolean isStar = method == Method.OPTIONS && Text.isExactly(line, first + 1, second, "*");
            if (line.get(first + 1) != '/' && !isStar) {
                return 400;
            }
            lastDigit = line.get(end - 1);
            takePath(line, first + 1, Text.find(line, '?', first + 1, second));
            return NOTHING;
        }

        private void takePath(Bytes line, int from, int to) {
            for (int i = from; i < to; i++) {
                int b = line.get(i);
                if (b == '%') {
                    b = 16 * Text.hexDigit(line.get(i + 1)) + Text.hexDigit(line.get(i + 2));
                    i += 2;
                }
                path.add(b);
            }
        }

        int checkHost() {
            int found = fields.countOf("host");
            if (found > 1 || found == 0 && !isOld()) {
                return 400;
            }
            int f = fields.indexOf("host");
            boolean fits = f == NONE || Text.isHost(fields.text, fields.valueFrom[f], fields.valueTo[f]);
            return fits ? NOTHING : 400;
        }

        int checkTransferEncoding() {
            if (fields.countOf("transfer-encoding") == 0) {
                return NOTHING;
            }
            if (isOld() || fields.countOf("content-length") > 0) {
                return 400;
            }
            int found = fields.gather("transfer-encoding");
            if (!fields.elementIs(found - 1, "chunked")) {
                return 400;
            }
            if (found > 1) {
                return 501;
            }
            isChunked = true;
            return NOTHING;
        }

        int checkContentLength() {
            if (fields.countOf("content-length") == 0) {
                return NOTHING;
            }
            int found = fields.gather("content-length");
            int length = fields.elementNumber(0);
            for (int k = 1; k < found; k++) {
                if (fields.elementNumber(k) != length) {
                    return 400;
                }
            }
            if (length == NONE) {
                return 400;
            }
            if (length > MOST_BODY_BYTES) {
                return 413;
            }
            bodyLength = length;
            return NOTHING;
        }

        int checkExpect() {
            if (isOld()) {
                return NOTHING;
            }
            int found = fields.gather("expect");
            for (int k = 0; k < found; k++) {
                if (!fields.elementIs(k, "100-continue")) {
                    return 417;
                }
            }
            awaitsContinue = found > 0 && (isChunked || bodyLength > 0);
            return NOTHING;
        }

        void readConnection() {
            isLast = fields.hasElement("connection", "close")
                    || isOld() && !fields.hasElement("connection", "keep-alive");
        }
    }

    /** Cuts the bytes of one connection into requests. */
    private static final class Reader {
        private final Bytes line;
        private final Request request;
        private int stage;
        private boolean afterCr;
        private int chunkLeft;
        private int trailers;

        Reader() {
            line = new Bytes(MOST_LINE_BYTES);
            request = new Request();
            stage = REQUEST_LINE;
        }

        void restart() {
            line.clear();
            request.clear();
            stage = REQUEST_LINE;
            afterCr = false;
            chunkLeft = 0;
            trailers = 0;
        }

        int take(int b) {
            switch (stage) {
                case NONE:
                    return NOTHING;
                case COUNTED_BODY:
                    return takeBodyByte(b);
                case CHUNK_BYTES:
                    return takeChunkByte(b);
                default:
                    return takeLineByte(b);
            }
        }

        private int takeBodyByte(int b) {
            request.body.add(b);
            return request.body.count >= request.bodyLength ? REQUEST_ENDED : NOTHING;
        }

        private int takeChunkByte(int b) {
            if (chunkLeft > 0) {
                request.body.add(b);
                chunkLeft--;
                return NOTHING;
            }
            if (b != (afterCr ? LF : CR)) {
                return 400;
            }
            if (afterCr) {
                stage = CHUNK_LINE;
            }
            afterCr = !afterCr;
            return NOTHING;
        }

        private int takeLineByte(int b) {
            if (afterCr) {
                afterCr = false;
                return b == LF ? LINE_ENDED : 400;
            }
            if (b == LF) {
                return 400;
            }
            if (b == CR) {
                afterCr = true;
                return NOTHING;
            }
            if (line.count >= MOST_LINE_BYTES) {
                return tooLong();
            }
            line.add(b);
            return NOTHING;
        }

        private int tooLong() {
            switch (stage) {
                case REQUEST_LINE:
                    return 414;
                case CHUNK_LINE:
                    return 400;
                default:
                    return 431;
            }
        }

        int endLine() {
            int event;
            switch (stage) {
                case REQUEST_LINE:
                    event = endRequestLine();
                    break;
                case FIELD_LINES:
                    event = line.count == 0 ? HEAD_ENDED : request.fields.take(line);
                    break;
                case CHUNK_LINE:
                    event = endChunkLine();
                    break;
                default:
                    event = line.count == 0 ? REQUEST_ENDED : endTrailer();
                    break;
            }
            line.clear();
            return event;
        }

        private int endRequestLine() {
            if (line.count == 0) {
                return NOTHING;
            }
            int error = request.takeLine(line);
            if (error == NOTHING) {
                stage = FIELD_LINES;
            }
            return error;
        }

        private int endChunkLine() {
            int size = Text.chunkSize(line);
            if (size == NONE) {
                return 400;
            }
            if (request.body.count + size > MOST_BODY_BYTES) {
                return 413;
            }
            chunkLeft = size;
            stage = size == 0 ? TRAILER_LINES : CHUNK_BYTES;
            return NOTHING;
        }

        private int endTrailer() {
            if (Text.colonOf(line) == NONE) {
                return 400;
            }
            trailers++;
            return trailers > MOST_TRAILERS ? 431 : NOTHING;
        }

        int endHead() {
            int error = request.checkHost();
            if (error == NOTHING) {
                error = request.checkTransferEncoding();
            }
            if (error == NOTHING) {
                error = request.checkContentLength();
            }
            if (error == NOTHING) {
                error = request.checkExpect();
            }
            if (error != NOTHING) {
                return error;
            }
            request.readConnection();
            if (!request.isChunked && request.bodyLength == 0) {
                return REQUEST_ENDED;
            }
            stage = request.isChunked ? CHUNK_LINE : COUNTED_BODY;
            return request.awaitsContinue ? CONTINUE : NOTHING;
        }
    }

    /** One of the site's eight places; its tag is its mark, NONE while nothing is there. */
    private static final class Resource {
        private final Bytes content;
        private int tag;

        Resource() {
            content = new Bytes(MOST_BODY_BYTES);
            tag = NONE;
        }

        boolean isThere() {
            return tag != NONE;
        }
    }

    /** The resources, and the changes that are made to them. */
    private static final class Site {
        private final Resource[] resources;
        private int changeCount;

        Site() {
            resources = new Resource[RESOURCES];
            for (int k = 0; k < RESOURCES; k++) {
                resources[k] = new Resource();
            }
        }

        /** The place that a path names, or null. */
        Resource find(Bytes path) {
            int k = path.get(1) - 'a';
            return path.count == 2 && k >= 0 && k < RESOURCES ? resources[k] : null;
        }

        int replace(Resource resource, Request request) {
            boolean wasThere = resource.isThere();
            if (wasThere && request.fields.hasElement("if-none-match", "*")) {
                return 412;
            }
            resource.content.clear();
            resource.content.addAll(request.body);
            changeCount++;
            resource.tag = changeCount;
            return wasThere ? 204 : 201;
        }

        int extend(Resource resource, Request request) {
            if (!resource.isThere()) {
                return 404;
            }
            if (resource.content.count + request.body.count > MOST_BODY_BYTES) {
                return 413;
            }
            resource.content.addAll(request.body);
            changeCount++;
            resource.tag = changeCount;
            return 204;
        }

        int remove(Resource resource) {
            if (!resource.isThere()) {
                return 404;
            }
            resource.content.clear();
            resource.tag = NONE;
            changeCount++;
            return 204;
        }
    }

    /** The bytes that a request asks for; first or last is NONE where it is not told. */
    private static final class Range {
        private int first;
        private int last;

        /** Whether there is just one range and it is of a form that is told. */
        boolean take(Fields fields) {
            int f = fields.indexOf("range");
            if (f == NONE || fields.countOf("range") > 1) {
                return false;
            }
            Bytes text = fields.text;
            int from = fields.valueFrom[f] + 6;
            int to = fields.valueTo[f];
            if (from > to || !Text.isWord(text, from - 6, from, "bytes=")) {
                return false;
            }
            int dash = Text.find(text, '-', from, to);
            first = Text.number(text, from, dash);
            last = Text.number(text, dash + 1, to);
            if (dash == from) {
                return last > 0;
            }
            if (dash + 1 == to) {
                return first != NONE;
            }
            return first != NONE && first <= last;
        }
    }

    /** A response before it is written: its number, what its fields tell, and its body. */
    private static final class Answer {
        private final Range range;
        private final Bytes letters;
        private int number;
        private int tag;
        private boolean allows;
        private boolean closes;
        private boolean keepsAlive;
        private int toldLength;
        private Bytes body;
        private int from;
        private int to;
        private int wholeLength;

        Answer() {
            range = new Range();
            letters = new Bytes(RESOURCES);
            body = letters;
        }

        /** A response of this number without a body; whether it closes is told when it is sent. */
        void begin(int newNumber) {
            number = newNumber;
            tag = NONE;
            allows = false;
            toldLength = 0;
            body = letters;
            from = 0;
            to = 0;
            wholeLength = 0;
        }

        void decide(Request request, Site site) {
            Method method = request.method;
            if (method == Method.OPTIONS || method == Method.TRACE) {
                begin(method == Method.OPTIONS ? 204 : 405);
                allows = true;
                return;
            }
            boolean reads = method == Method.GET || method == Method.HEAD;
            Resource resource = site.find(request.path);
            if (reads && request.path.count == 1) {
                list(site);
                show(method, letters);
            } else if (resource == null) {
                begin(404);
            } else if (reads) {
                read(request, resource);
            } else if (method == Method.PUT) {
                begin(site.replace(resource, request));
            } else if (method == Method.POST) {
                begin(site.extend(resource, request));
            } else {
                begin(site.remove(resource));
            }
        }

        private void list(Site site) {
            letters.clear();
            for (int k = 0; k < RESOURCES; k++) {
                if (site.resources[k].isThere()) {
                    letters.add('a' + k);
                }
            }
        }

        private void show(Method method, Bytes content) {
            begin(200);
            body = content;
            toldLength = content.count;
            to = method == Method.GET ? content.count : 0;
        }

        private void read(Request request, Resource resource) {
            if (!resource.isThere()) {
                begin(404);
                return;
            }
            if (isKnown(request.fields, resource.tag)) {
                begin(304);
            } else if (request.method == Method.GET && range.take(request.fields)) {
                showRange(resource.content);
            } else {
                show(request.method, resource.content);
            }
            tag = number == 416 ? NONE : resource.tag;
        }

        private boolean isKnown(Fields fields, int mark) {
            int found = fields.gather("if-none-match");
            for (int k = 0; k < found; k++) {
                if (fields.elementIs(k, "*") || fields.elementIsTag(k, mark)) {
                    return true;
                }
            }
            return false;
        }

        private void showRange(Bytes content) {
            int whole = content.count;
            // A range of the last n bytes has first NONE, which is below every number of bytes.
            if (whole == 0 || range.first >= whole) {
                begin(416);
                wholeLength = whole;
                return;
            }
            begin(206);
            wholeLength = whole;
            body = content;
            if (range.first == NONE) {
                from = Math.max(0, whole - range.last);
                to = whole;
            } else {
                from = range.first;
                to = range.last == NONE ? whole : Math.min(range.last + 1, whole);
            }
            toldLength = to - from;
        }
    }

    /** What was sent: how many bytes, and the first of them. */
    private static final class Outbox {
        private final Bytes kept;
        private int total;

        Outbox() {
            kept = new Bytes(MOST_KEPT_BYTES);
        }

        void empty() {
            kept.clear();
            total = 0;
        }

        void write(Answer answer) {
            writeText("HTTP/1.1 ");
            writeNumber(answer.number);
            writeText(" \r\n");
            if (answer.number != CONTINUE) {
                writeFields(answer);
            }
            writeText("\r\n");
            for (int i = answer.from; i < answer.to; i++) {
                writeByte(answer.body.get(i));
            }
        }

        private void writeFields(Answer answer) {
            if (answer.number != 204 && answer.number != 304) {
                writeText("Content-Length: ");
                writeNumber(answer.toldLength);
                writeText("\r\n");
            }
            if (answer.tag != NONE) {
                writeText("ETag: \"");
                writeNumber(answer.tag);
                writeText("\"\r\n");
            }
            if (answer.number == 206 || answer.number == 416) {
                writeRange(answer);
            }
            if (answer.allows) {
                writeText("Allow: ");
                writeText(ALLOWED);
                writeText("\r\n");
            }
            if (answer.closes) {
                writeText("Connection: close\r\n");
            } else if (answer.keepsAlive) {
                writeText("Connection: keep-alive\r\n");
            }
        }

        private void writeRange(Answer answer) {
            writeText("Content-Range: bytes ");
            if (answer.number == 206) {
                writeNumber(answer.from);
                writeByte('-');
                writeNumber(answer.to - 1);
            } else {
                writeByte('*');
            }
            writeByte('/');
            writeNumber(answer.wholeLength);
            writeText("\r\n");
        }

        private void writeByte(int b) {
            kept.add(b);
            total++;
        }

        private void writeText(String text) {
            for (int k = 0; k < text.length(); k++) {
                writeByte(text.charAt(k));
            }
        }

        private void writeNumber(int value) {
            int unit = 1;
            for (int k = 0; k < 9 && value / unit >= 10; k++) {
                unit *= 10;
            }
            for (int k = 0; k < 10 && unit > 0; k++) {
                writeByte('0' + value / unit % 10);
                unit /= 10;
            }
        }
    }
}
