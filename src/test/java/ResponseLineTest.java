/** How a response is written: each number that there is, letter by letter, and each sentence on its lines. */
public final class ResponseLineTest {
    private static final String KEEP = "Connection: keep-alive\r\n";
    private static final String CHUNKED = "Transfer-Encoding: chunked\r\n";
    private static final String EXPECT = "Expect: 100-continue\r\n";
    private static final String ALLOW = "Allow: GET, HEAD, PUT, POST, DELETE, OPTIONS\r\n";
    private static final String ERROR = "Content-Length: 0\r\nConnection: close\r\n\r\n";

    public static void main(String[] args) {
        everyNumber();
        everyError();
        fieldsInOrder();
        contentRange();
        noFieldsOfA100();
        lengthIsThatOfTheBody();
        bytesOfTheBody();
        responsesInOrder();
        answeredUntilClosed();
        Client.finish();
    }

    private static void is(Client c, String wire, String due) {
        Client.due(wire, c.exchange(wire), due);
    }

    private static void everyNumber() {
        Client.sentence("It consists of lines, each with CR and LF: HTTP/1.1, one 32, the number of three digits, one 32; then fields; an empty line; "
                + "then the body.");
        Client c = new Client();
        is(c, "GET /a HTTP/1.1\r\nHost: x\r\n\r\n", "HTTP/1.1 404 \r\nContent-Length: 0\r\n\r\n");
        is(c, "PUT /a HTTP/1.1\r\nHost: x\r\nContent-Length: 5\r\n\r\nhello", "HTTP/1.1 201 \r\nContent-Length: 0\r\n\r\n");
        is(c, "PUT /a HTTP/1.1\r\nHost: x\r\nContent-Length: 5\r\n" + EXPECT + "\r\n", "HTTP/1.1 100 \r\n\r\n");
        is(c, "HELLO", "HTTP/1.1 204 \r\n\r\n");
        is(c, "GET /a HTTP/1.1\r\nHost: x\r\n\r\n", "HTTP/1.1 200 \r\nContent-Length: 5\r\nETag: \"2\"\r\n\r\nHELLO");
        is(c, "HEAD /a HTTP/1.1\r\nHost: x\r\n\r\n", "HTTP/1.1 200 \r\nContent-Length: 5\r\nETag: \"2\"\r\n\r\n");
        is(c, "GET / HTTP/1.1\r\nHost: x\r\n\r\n", "HTTP/1.1 200 \r\nContent-Length: 1\r\n\r\na");
        is(c, "HEAD / HTTP/1.1\r\nHost: x\r\n\r\n", "HTTP/1.1 200 \r\nContent-Length: 1\r\n\r\n");
        is(c, "GET /a HTTP/1.1\r\nHost: x\r\nRange: bytes=1-3\r\n\r\n",
                "HTTP/1.1 206 \r\nContent-Length: 3\r\nETag: \"2\"\r\nContent-Range: bytes 1-3/5\r\n\r\nELL");
        is(c, "GET /a HTTP/1.1\r\nHost: x\r\nRange: bytes=5-\r\n\r\n", "HTTP/1.1 416 \r\nContent-Length: 0\r\nContent-Range: bytes */5\r\n\r\n");
        is(c, "GET /a HTTP/1.1\r\nHost: x\r\nIf-None-Match: \"2\"\r\n\r\n", "HTTP/1.1 304 \r\nETag: \"2\"\r\n\r\n");
        is(c, "PUT /a HTTP/1.1\r\nHost: x\r\nIf-None-Match: *\r\n\r\n", "HTTP/1.1 412 \r\nContent-Length: 0\r\n\r\n");
        is(c, "TRACE /a HTTP/1.1\r\nHost: x\r\n\r\n", "HTTP/1.1 405 \r\nContent-Length: 0\r\n" + ALLOW + "\r\n");
        is(c, "OPTIONS * HTTP/1.1\r\nHost: x\r\n\r\n", "HTTP/1.1 204 \r\n" + ALLOW + "\r\n");
        is(c, "POST /a HTTP/1.1\r\nHost: x\r\nContent-Length: 1\r\n\r\n!", "HTTP/1.1 204 \r\n\r\n");
        is(c, "POST /a HTTP/1.1\r\nHost: x\r\nContent-Length: 195\r\n\r\n" + "z".repeat(195), "HTTP/1.1 413 \r\nContent-Length: 0\r\n\r\n");
        is(c, "DELETE /a HTTP/1.1\r\nHost: x\r\n\r\n", "HTTP/1.1 204 \r\n\r\n");
    }

    private static void everyError() {
        Client.sentence("An ERROR is answered by a response with its number: its lines.");
        String post = "POST /a HTTP/1.1\r\nHost: x\r\n";
        String[] wires = {"\n", post + "Content-Length: 201\r\n\r\n", "x".repeat(81), post + "Expect: tea\r\n\r\n", post + "x".repeat(81),
            "GOT / HTTP/1.1\r\n", "GET / HTTP/2.0\r\n"};
        int[] numbers = {400, 413, 414, 417, 431, 501, 505};
        for (int k = 0; k < wires.length; k++) {
            is(new Client(), wires[k], "HTTP/1.1 " + numbers[k] + " \r\n" + ERROR);
            // What the request before had is none of the error's.
            is(Client.withA("hello"), Client.get("/a", "Range: bytes=1-1") + wires[k], "HTTP/1.1 206 \r\nContent-Length: 1\r\nETag: \"1\"\r\n"
                    + "Content-Range: bytes 1-1/5\r\n\r\ne" + "HTTP/1.1 " + numbers[k] + " \r\n" + ERROR);
        }
        is(new Client(), "HEAD /a HTTP/1.0\r\n" + KEEP + "bad\r\n", "HTTP/1.1 400 \r\n" + ERROR);
    }

    private static void fieldsInOrder() {
        Client.sentence("Then those fields of these that there are, in order: Content-Length, ETag, Content-Range, Allow, Connection.");
        String[] heads = {" /a HTTP/1.0\r\n" + KEEP, " /a HTTP/1.0\r\n", " /a HTTP/1.1\r\nHost: x\r\nConnection: close\r\n"};
        String[] ends = {KEEP, "Connection: close\r\n", "Connection: close\r\n"};
        for (int k = 0; k < heads.length; k++) {
            String end = ends[k] + "\r\n";
            is(Client.withA("hello"), "GET" + heads[k] + "\r\n", "HTTP/1.1 200 \r\nContent-Length: 5\r\nETag: \"1\"\r\n" + end + "hello");
            is(Client.withA("hello"), "HEAD" + heads[k] + "\r\n", "HTTP/1.1 200 \r\nContent-Length: 5\r\nETag: \"1\"\r\n" + end);
            is(Client.withA("hello"), "GET" + heads[k] + "Range: bytes=-2\r\n\r\n",
                    "HTTP/1.1 206 \r\nContent-Length: 2\r\nETag: \"1\"\r\nContent-Range: bytes 3-4/5\r\n" + end + "lo");
            is(Client.withA("hello"), "GET" + heads[k] + "Range: bytes=9-\r\n\r\n",
                    "HTTP/1.1 416 \r\nContent-Length: 0\r\nContent-Range: bytes */5\r\n" + end);
            is(Client.withA("hello"), "GET" + heads[k] + "If-None-Match: *\r\n\r\n", "HTTP/1.1 304 \r\nETag: \"1\"\r\n" + end);
            is(Client.withA("hello"), "PUT" + heads[k] + "If-None-Match: *\r\n\r\n", "HTTP/1.1 412 \r\nContent-Length: 0\r\n" + end);
            is(Client.withA("hello"), "PUT" + heads[k] + "\r\n", "HTTP/1.1 204 \r\n" + end);
            is(Client.withA("hello"), "POST" + heads[k] + "\r\n", "HTTP/1.1 204 \r\n" + end);
            is(Client.withA("hello"), "DELETE" + heads[k] + "\r\n", "HTTP/1.1 204 \r\n" + end);
            is(Client.withA("hello"), "OPTIONS" + heads[k] + "\r\n", "HTTP/1.1 204 \r\n" + ALLOW + end);
            is(Client.withA("hello"), "TRACE" + heads[k] + "\r\n", "HTTP/1.1 405 \r\nContent-Length: 0\r\n" + ALLOW + end);
            is(new Client(), "PUT" + heads[k] + "\r\n", "HTTP/1.1 201 \r\nContent-Length: 0\r\n" + end);
            is(new Client(), "GET" + heads[k] + "\r\n", "HTTP/1.1 404 \r\nContent-Length: 0\r\n" + end);
            is(Client.withA("z".repeat(200)), "POST" + heads[k] + "Content-Length: 1\r\n\r\nz", "HTTP/1.1 413 \r\nContent-Length: 0\r\n" + end);
        }
    }

    private static void contentRange() {
        Client.sentence("Content-Range, \"bytes a-b/n\" for 206, n being the number of all bytes, \"bytes *\"/n for 416.");
        int[] sizes = {1, 9, 10, 11, 99, 100, 101, 200};
        for (int size : sizes) {
            Client c = Client.withA("z".repeat(size));
            int[] firsts = {0, size / 2, size - 1};
            for (int first : firsts) {
                int length = size - first;
                is(c, Client.get("/a", "Range: bytes=" + first + "-"), "HTTP/1.1 206 \r\nContent-Length: " + length + "\r\nETag: \"1\"\r\n"
                        + "Content-Range: bytes " + first + "-" + (size - 1) + "/" + size + "\r\n\r\n" + "z".repeat(length));
            }
            is(c, Client.get("/a", "Range: bytes=" + size + "-"),
                    "HTTP/1.1 416 \r\nContent-Length: 0\r\nContent-Range: bytes */" + size + "\r\n\r\n");
            Client.due("no Content-Range of all", c.exchange(Client.get("/a")).contains("Range"), false);
        }
    }

    private static void noFieldsOfA100() {
        Client.sentence("A 100 has no fields.");
        String[] lines = {"GET /a", "GET /", "HEAD /a", "PUT /a", "POST /a", "DELETE /a", "OPTIONS *", "TRACE /a", "GET /zz"};
        String[] fields = {"", "Connection: close\r\n", KEEP, "Range: bytes=1-1\r\n", "If-None-Match: *\r\n"};
        for (String line : lines) {
            for (String field : fields) {
                String head = line + " HTTP/1.1\r\nHost: x\r\n" + field + EXPECT;
                is(Client.withA("hello"), head + "Content-Length: 1\r\n\r\n", "HTTP/1.1 100 \r\n\r\n");
                is(Client.withA("hello"), head + CHUNKED + "\r\n", "HTTP/1.1 100 \r\n\r\n");
            }
        }
    }

    private static void lengthIsThatOfTheBody() {
        Client.sentence("Content-Length, the number of the body's bytes (for HEAD as many as GET would have, ranges left out).");
        String[] targets = {"/", "/a", "/b", "/c", "/d", "/i", "/?a", "/a?b"};
        Client c = new Client();
        c.send(Client.put("/a", "") + Client.put("/b", "x") + Client.put("/c", "y".repeat(200)));
        for (String target : targets) {
            String got = c.exchange(Client.get(target));
            int end = got.indexOf("\r\n\r\n") + 4;
            String told = "Content-Length: " + (got.length() - end) + "\r\n";
            Client.due("GET " + target + " tells its length", got.contains(told), true);
            is(c, Client.ask("HEAD", target), got.substring(0, end));
            is(c, Client.ask("HEAD", target, "Range: bytes=0-0"), got.substring(0, end));
            is(c, Client.ask("HEAD", target, "Range: bytes=999-"), got.substring(0, end));
        }
    }

    private static void bytesOfTheBody() {
        Client.sentence("Then the body: all bytes as they came, whatever they are.");
        StringBuilder all = new StringBuilder();
        for (int b = 0; b < 256; b++) {
            all.append((char) b);
        }
        String[] parts = {all.substring(0, 128), all.substring(128), "\r\n\r\nHTTP/1.1 500 \r\n\r\n", "\u0000".repeat(200), "\u00ff".repeat(200)};
        for (String part : parts) {
            Client c = Client.withA(part);
            is(c, Client.get("/a"), "HTTP/1.1 200 \r\nContent-Length: " + part.length() + "\r\nETag: \"1\"\r\n\r\n" + part);
            is(c, Client.get("/a", "Range: bytes=3-7"), "HTTP/1.1 206 \r\nContent-Length: 5\r\nETag: \"1\"\r\n"
                    + "Content-Range: bytes 3-7/" + part.length() + "\r\n\r\n" + part.substring(3, 8));
        }
    }

    private static void responsesInOrder() {
        Client.sentence("Each request is answered, in order.");
        String put = "HTTP/1.1 204 \r\n\r\n";
        Client c = Client.withA("0");
        StringBuilder wire = new StringBuilder();
        StringBuilder due = new StringBuilder();
        for (int k = 1; k <= 9; k++) {
            wire.append(Client.put("/a", "" + k)).append(Client.get("/a"));
            due.append(put).append(Client.whole("" + k, k + 1));
        }
        is(c, wire.toString(), due.toString());
        String expects = "PUT /a HTTP/1.1\r\nHost: x\r\nContent-Length: 1\r\n" + EXPECT + "\r\nz";
        is(c, expects + Client.get("/a") + expects, "HTTP/1.1 100 \r\n\r\n" + put + Client.whole("z", 11) + "HTTP/1.1 100 \r\n\r\n" + put);
    }

    private static void answeredUntilClosed() {
        Client.sentence("Each request is answered until the connection is closed.");
        String last = Client.ask("DELETE", "/a", "Connection: close");
        Client c = Client.withA("hello");
        is(c, Client.get("/a") + last + Client.put("/a", "x") + Client.put("/b", "x"),
                Client.whole("hello", 1) + "HTTP/1.1 204 \r\nConnection: close\r\n\r\n");
        Client.due("the site", c.site(), "changes 2");
        c.asked().connect();
        is(c, Client.put("/a", "x") + Client.get("/a"), Client.empty(201) + Client.whole("x", 3));
    }
}
