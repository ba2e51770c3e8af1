import java.util.NoSuchElementException;

/** One PlainOrigin spoken to in texts of Latin-1, and the count of the answers that are not as due. */
final class Client {
    static final String HOST = "Host: x\r\n";
    private static int checks = 0;
    private static int wrong = 0;

    /** A call that may throw. */
    interface Call {
        void run();
    }

    final PlainOrigin origin = new PlainOrigin();
    private final int piece;
    private int calls = 0;

    Client() {
        this(8);
    }

    Client(int piece) {
        this.piece = piece;
    }

    static void due(String what, Object got, Object want) {
        checks++;
        if (!got.equals(want)) {
            wrong++;
            System.out.println(what + " answered " + shown(got) + ", due is " + shown(want));
        }
    }

    static void throwsOf(String what, Class<? extends RuntimeException> want, Call call) {
        Object got = "nothing";
        try {
            call.run();
        } catch (RuntimeException e) {
            got = e.getClass();
        }
        due(what + " throws", got, want);
    }

    static void noArgument(String what, Call call) {
        throwsOf(what, IllegalArgumentException.class, call);
    }

    static void noIndex(String what, Call call) {
        throwsOf(what, IndexOutOfBoundsException.class, call);
    }

    static void noElement(String what, Call call) {
        throwsOf(what, NoSuchElementException.class, call);
    }

    static void finish() {
        System.out.println(checks + " answers, " + wrong + " not as due");
        if (wrong != 0 || checks == 0) {
            System.exit(1);
        }
    }

    /** Feeds a text in pieces and tells how many responses were sent by it. */
    int send(String wire) {
        int responses = 0;
        for (int from = 0; from < wire.length(); from += piece) {
            int n = Math.min(piece, wire.length() - from);
            long bytes = 0;
            for (int k = 0; k < n; k++) {
                bytes |= (long) (wire.charAt(from + k) & 255) << (8 * k);
            }
            countCall();
            responses += origin.feed(bytes, n);
        }
        return responses;
    }

    // Nothing is promised of later calls, so a test that makes more proves nothing.
    private void countCall() {
        calls++;
        if (calls > 500) {
            due("calls of one object", calls, "at most 500");
        }
    }

    /** What was sent, as far as it is kept. */
    String output() {
        int end = Math.min(origin.sent(), 2000);
        StringBuilder text = new StringBuilder();
        for (int i = 0; 8 * i < end; i++) {
            countCall();
            long word = origin.out(i);
            for (int k = 0; k < 8; k++) {
                text.append((char) (word >>> (8 * k) & 255));
            }
        }
        text.setLength(end);
        return text.toString();
    }

    /** Feeds a text and tells what was sent by it. */
    String exchange(String wire) {
        origin.drain();
        send(wire);
        return output();
    }

    /** A client whose resource a has these bytes and the mark 1. */
    static Client withA(String content) {
        Client client = new Client();
        client.send(put("/a", content));
        client.origin.drain();
        return client;
    }

    static String put(String target, String content) {
        return "PUT " + target + " HTTP/1.1\r\nHost: x\r\nContent-Length: " + content.length() + "\r\n\r\n" + content;
    }

    static String post(String target, String content) {
        return "POST" + put(target, content).substring(3);
    }

    /** A request of HTTP/1.1 with a host, these field lines and no body. */
    static String ask(String method, String target, String... fields) {
        StringBuilder text = new StringBuilder(method + " " + target + " HTTP/1.1\r\nHost: x\r\n");
        for (String field : fields) {
            text.append(field).append("\r\n");
        }
        return text.append("\r\n").toString();
    }

    static String get(String target, String... fields) {
        return ask("GET", target, fields);
    }

    /** A response of which these are the field lines. */
    static String response(int number, String body, String... fields) {
        StringBuilder text = new StringBuilder("HTTP/1.1 " + number + " \r\n");
        for (String field : fields) {
            text.append(field).append("\r\n");
        }
        return text.append("\r\n").append(body).toString();
    }

    static String error(int number) {
        return response(number, "", "Content-Length: 0", "Connection: close");
    }

    /** A new object answers the text with just one response, of this number, and stays open. */
    static void answers(String wire, int number) {
        Client client = new Client();
        due(shown(wire) + ": responses", client.send(wire), 1);
        due(shown(wire) + ": number", client.origin.status(), number);
        due(shown(wire) + ": open", client.origin.isOpen(), true);
    }

    /** A new object finds this error at the very last byte of the text, and not before. */
    static void failsAtEnd(String wire, int number) {
        failsAtEnd(new Client(), wire, number);
    }

    static void failsAtEnd(Client client, String wire, int number) {
        String what = shown(wire);
        String before = wire.substring(0, wire.length() - 1);
        due(what + ": responses before its end", client.send(before), 0);
        due(what + ": open before its end", client.origin.isOpen(), true);
        String sent = client.exchange(wire.substring(wire.length() - 1));
        due(what + ": what is sent", sent, error(number));
        due(what + ": number", client.origin.status(), number);
        due(what + ": open", client.origin.isOpen(), false);
        due(what + ": reading", client.origin.reading(), PlainOrigin.NONE);
    }

    private static String shown(Object value) {
        return value.toString().replace("\r", "\\r").replace("\n", "\\n");
    }
}
