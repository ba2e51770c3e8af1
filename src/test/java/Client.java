import java.util.NoSuchElementException;

/** One PlainOrigin spoken to in texts of Latin-1, and the count of the answers that are not as due. */
final class Client {
    static final String HOST = "Host: x\r\n";
    private static final int MOST_CALLS = 512;
    private static int checks = 0;
    private static int wrong = 0;
    private static int sentences = 0;
    private static String sentence = "";
    private static int checksBefore = 0;

    /** A call that may throw. */
    interface Call {
        void run();
    }

    final PlainOrigin origin = new PlainOrigin();
    private final int piece;
    private int calls = 0;

    Client() {
        this(8);
    }

    Client(int piece) {
        this.piece = piece;
    }

    /** What is checked from here on belongs to these words of the document. */
    static void sentence(String words) {
        endSentence();
        sentences++;
        sentence = words;
        checksBefore = checks;
    }

    private static void endSentence() {
        if (!sentence.isEmpty() && checks == checksBefore) {
            due("checks of this sentence", 0, "at least one");
        }
    }

    static void due(String what, Object got, Object want) {
        checks++;
        if (!got.equals(want)) {
            wrong++;
            if (!sentence.isEmpty()) {
                System.out.println("The document: " + sentence);
            }
            System.out.println(shown(what) + " answered " + shown(got) + ", due is " + shown(want));
        }
    }

    static void throwsOf(String what, Class<? extends RuntimeException> want, Call call) {
        Object got = "nothing";
        try {
            call.run();
        } catch (RuntimeException e) {
            got = e.getClass();
        }
        due(what + " throws", got, want);
    }

    static void noArgument(String what, Call call) {
        throwsOf(what, IllegalArgumentException.class, call);
    }

    static void noIndex(String what, Call call) {
        throwsOf(what, IndexOutOfBoundsException.class, call);
    }

    static void noElement(String what, Call call) {
        throwsOf(what, NoSuchElementException.class, call);
    }

    static void finish() {
        endSentence();
        System.out.println(checks + " answers" + (sentences > 0 ? " to " + sentences + " sentences" : "") + ", "
                + wrong + " not as due");
        if (wrong != 0 || checks == 0) {
            System.exit(1);
        }
    }

    /** The object, for one call of it. */
    PlainOrigin asked() {
        calls++;
        // Nothing is promised of later calls, so a test that makes more proves nothing.
        if (calls > MOST_CALLS) {
            due("calls of one object", calls, "at most " + MOST_CALLS);
        }
        return origin;
    }

    /** Feeds a text in pieces and tells how many responses were sent by it. */
    int send(String wire) {
        int responses = 0;
        for (int from = 0; from < wire.length(); from += piece) {
            int n = Math.min(piece, wire.length() - from);
            responses += asked().feed(word(wire, from, n), n);
        }
        return responses;
    }

    /** The bytes of a text from an index on, the first one lowest. */
    static long word(String text, int from, int n) {
        long bytes = 0;
        for (int k = 0; k < n; k++) {
            bytes |= (long) (text.charAt(from + k) & 255) << (8 * k);
        }
        return bytes;
    }

    /** What was sent, as far as it is kept. */
    String output() {
        int end = Math.min(asked().sent(), 2000);
        StringBuilder text = new StringBuilder();
        for (int i = 0; 8 * i < end; i++) {
            long word = asked().out(i);
            for (int k = 0; k < 8; k++) {
                text.append((char) (word >>> (8 * k) & 255));
            }
        }
        text.setLength(end);
        return text.toString();
    }

    /** Feeds a text and tells what was sent by it. */
    String exchange(String wire) {
        asked().drain();
        send(wire);
        return output();
    }

    /** The bytes of a resource that is there. */
    String content(int resource) {
        StringBuilder text = new StringBuilder();
        int size = asked().size(resource);
        for (int i = 0; i < size; i++) {
            text.append((char) asked().at(resource, i));
        }
        return text.toString();
    }

    /** All that can be asked about the site. */
    String site() {
        StringBuilder text = new StringBuilder("changes " + asked().changes());
        for (int r = 0; r < 8; r++) {
            if (asked().size(r) != PlainOrigin.NONE) {
                text.append(", ").append((char) ('a' + r)).append(" of mark ").append(asked().mark(r))
                        .append(": ").append(content(r));
            }
        }
        return text.toString();
    }

    /** All that can be asked. */
    String state() {
        return "open " + asked().isOpen() + ", status " + asked().status() + ", reading " + asked().reading()
                + ", sent " + asked().sent() + ", " + site() + ", out " + output();
    }

    /** The call throws this, and all that can be asked answers as before. */
    void refuses(String what, Class<? extends RuntimeException> want, Call call) {
        String before = state();
        throwsOf(what, want, call);
        due(what + ": what it leaves", state(), before);
    }

    /** A client whose resource a has these bytes and the mark 1. */
    static Client withA(String content) {
        Client client = new Client();
        client.send(put("/a", content));
        client.asked().drain();
        return client;
    }

    static String put(String target, String content) {
        return "PUT " + target + " HTTP/1.1\r\nHost: x\r\nContent-Length: " + content.length() + "\r\n\r\n" + content;
    }

    static String post(String target, String content) {
        return "POST" + put(target, content).substring(3);
    }

    /** A request of HTTP/1.1 with a host, these field lines and no body. */
    static String ask(String method, String target, String... fields) {
        StringBuilder text = new StringBuilder(method + " " + target + " HTTP/1.1\r\nHost: x\r\n");
        for (String field : fields) {
            text.append(field).append("\r\n");
        }
        return text.append("\r\n").toString();
    }

    static String get(String target, String... fields) {
        return ask("GET", target, fields);
    }

    /** A response of which these are the field lines. */
    static String response(int number, String body, String... fields) {
        StringBuilder text = new StringBuilder("HTTP/1.1 " + number + " \r\n");
        for (String field : fields) {
            text.append(field).append("\r\n");
        }
        return text.append("\r\n").append(body).toString();
    }

    /** A response without bytes in an open connection of HTTP/1.1. */
    static String empty(int number) {
        return response(number, "", "Content-Length: 0");
    }

    /** A whole resource in an open connection of HTTP/1.1. */
    static String whole(String content, int mark) {
        return response(200, content, "Content-Length: " + content.length(), "ETag: \"" + mark + "\"");
    }

    static String error(int number) {
        return response(number, "", "Content-Length: 0", "Connection: close");
    }

    /** A new object answers the text with just one response, of this number, and stays open. */
    static void answers(String wire, int number) {
        Client client = new Client();
        due(wire + ": responses", client.send(wire), 1);
        due(wire + ": number", client.asked().status(), number);
        due(wire + ": open", client.asked().isOpen(), true);
    }

    /** A new object answers nothing to the text and reads on at this stage. */
    static void readsOn(String wire, int stage) {
        Client client = new Client();
        due(wire + ": responses", client.send(wire), 0);
        due(wire + ": reading", client.asked().reading(), stage);
    }

    /** A new object finds this error at the very last byte of the text, and not before. */
    static void failsAtEnd(String wire, int number) {
        failsAtEnd(new Client(), wire, number);
    }

    static void failsAtEnd(Client client, String wire, int number) {
        String site = client.site();
        String before = wire.substring(0, wire.length() - 1);
        due(wire + ": responses before its end", client.send(before), 0);
        due(wire + ": open before its end", client.asked().isOpen(), true);
        String sent = client.exchange(wire.substring(wire.length() - 1));
        due(wire + ": what is sent", sent, error(number));
        due(wire + ": number", client.asked().status(), number);
        due(wire + ": open", client.asked().isOpen(), false);
        due(wire + ": reading", client.asked().reading(), PlainOrigin.NONE);
        due(wire + ": the site", client.site(), site);
    }

    private static String shown(Object value) {
        StringBuilder text = new StringBuilder();
        for (char c : value.toString().toCharArray()) {
            if (c == '\r') {
                text.append("\\r");
            } else if (c == '\n') {
                text.append("\\n");
            } else if (c < 32 || c > 126) {
                text.append(String.format("\\x%02x", (int) c));
            } else {
                text.append(c);
            }
        }
        return text.toString();
    }
}
