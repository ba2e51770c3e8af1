/** THE BODY: so many bytes, or chunks. */
public final class BodyTest {
    private static final String CHUNKED = "PUT /a HTTP/1.1\r\nHost: x\r\nTransfer-Encoding: chunked\r\n\r\n";

    public static void main(String[] args) {
        countedBodies();
        chunkedBodies();
        chunkLines();
        chunkEnds();
        chunkSums();
        trailers();
        bodiesThatAreNotUsed();
        Client.finish();
    }

    private static void countedBodies() {
        holds(Client.put("/a", ""), "");
        holds(Client.put("/a", "\r\n\n\r\u0000\u00ff"), "\r\n\n\r\u0000\u00ff");
        holds(Client.put("/a", "x".repeat(200)), "x".repeat(200));
        holds("PUT /a HTTP/1.1\r\nHost: x\r\n\r\n", "");
        Client c = new Client();
        Client.due("all but the last byte", c.send("PUT /a HTTP/1.1\r\nHost: x\r\nContent-Length: 2\r\n\r\na"), 0);
        Client.due("not there yet", c.asked().size(0), -1);
        Client.due("the last byte", c.send("b"), 1);
        Client.due("a body and the next request in one piece", c.send(Client.put("/b", "cde") + Client.get("/b")), 2);
        Client.due("the body ends where it is told", c.asked().size(1), 3);
    }

    private static void holds(String wire, String content) {
        Client c = new Client();
        Client.due("a body: responses", c.send(wire), 1);
        Client.due("a body: number", c.asked().status(), 201);
        Client.due("a body: reading", c.asked().reading(), 0);
        Client.due("a body: size", c.asked().size(0), content.length());
        StringBuilder got = new StringBuilder();
        for (int i = 0; i < c.asked().size(0); i++) {
            got.append((char) c.asked().at(0, i));
        }
        Client.due("a body: bytes", got.toString(), content);
    }

    private static void chunkedBodies() {
        holds(CHUNKED + "0\r\n\r\n", "");
        holds(CHUNKED + "3\r\nabc\r\n0\r\n\r\n", "abc");
        holds(CHUNKED + "1\r\na\r\n2\r\n\r\n\r\n003\r\n0\r\n\r\n000\r\n\r\n", "a\r\n0\r\n");
        holds(CHUNKED + "a\r\n0123456789\r\nB\r\nabcdefghijk\r\n00\r\n\r\n", "0123456789abcdefghijk");
        holds(CHUNKED + "C8\r\n" + "y".repeat(200) + "\r\n0\r\n\r\n", "y".repeat(200));
        Client c = new Client();
        Client.due("not before the empty line", c.send(CHUNKED + "1\r\na\r\n0\r\n\r"), 0);
        Client.due("not there yet", c.asked().size(0), -1);
        Client.due("the empty line", c.send("\n" + Client.get("/a")), 2);
    }

    private static void chunkLines() {
        String[] wrong = {"", "g", "1g", "0x1", "-1", "+1", "0001", "1234", " 1", "1 ", "1 ;x", "\t1", "1,", "1;\u0001", "1;\u007f",
            "1;a\u0000", ";x", "0001;x", "1\t", "g;1"};
        for (String line : wrong) {
            Client.failsAtEnd(CHUNKED + line + "\r\n", 400);
        }
        String[] right = {"1;", "1;x=y", "01;;", "001; \t\"\u00ff\"", "1;" + "z".repeat(78)};
        for (String line : right) {
            holds(CHUNKED + line + "\r\nq\r\n0;z\r\n\r\n", "q");
        }
        Client.failsAtEnd(CHUNKED + "1;" + "z".repeat(79), 400);
        Client.failsAtEnd(CHUNKED + "1\n", 400);
        Client.failsAtEnd(CHUNKED + "1\r1", 400);
        Client.failsAtEnd(CHUNKED + "1\r\na\r\ng\r\n", 400);
    }

    private static void chunkEnds() {
        Client.failsAtEnd(CHUNKED + "1\r\nab", 400);
        Client.failsAtEnd(CHUNKED + "1\r\na\n", 400);
        Client.failsAtEnd(CHUNKED + "1\r\na\rb", 400);
        Client.failsAtEnd(CHUNKED + "1\r\na\r\r", 400);
    }

    private static void chunkSums() {
        Client.failsAtEnd(CHUNKED + "C9\r\n", 413);
        Client.failsAtEnd(CHUNKED + "fff\r\n", 413);
        Client.failsAtEnd(CHUNKED + "1\r\na\r\nC8\r\n", 413);
        String hundred = "64\r\n" + "h".repeat(100) + "\r\n";
        Client.failsAtEnd(CHUNKED + hundred + hundred + "1\r\n", 413);
        holds(CHUNKED + hundred + hundred + "0\r\n\r\n", "h".repeat(200));
        Client.failsAtEnd(CHUNKED + "FFF;\u0001\r\n", 400);
    }

    private static void trailers() {
        String last = CHUNKED + "0\r\n";
        holds(last + "A: b\r\n!:\r\nHost: y\r\nContent-Length: x\r\n\r\n", "");
        Client.failsAtEnd(last + "A: b\r\n".repeat(5), 431);
        Client.failsAtEnd(last + "A: b\r\n".repeat(4) + "bad\r\n", 400);
        Client.failsAtEnd(last + "bad\r\n", 400);
        Client.failsAtEnd(last + " A: b\r\n", 400);
        Client.failsAtEnd(last + "A: \u007f\r\n", 400);
        Client.failsAtEnd(last + "A: b\n", 400);
        Client.failsAtEnd(last + "A:" + "b".repeat(79), 431);
        holds(last + "A:" + "b".repeat(78) + "\r\n\r\n", "");
        Client c = new Client();
        String four = last + "Connection: close\r\n" + "If-None-Match: *\r\n".repeat(3) + "\r\n";
        Client.due("they are not used", c.send(four + four), 2);
        Client.due("they are not used: number", c.asked().status(), 204);
        Client.due("they are not used: open", c.asked().isOpen(), true);
    }

    private static void bodiesThatAreNotUsed() {
        Client c = Client.withA("hello");
        String body = "Content-Length: 3\r\n\r\nGET";
        String[] methods = {"GET", "HEAD", "DELETE", "OPTIONS", "TRACE"};
        int[] numbers = {200, 200, 204, 204, 405};
        for (int k = 0; k < methods.length; k++) {
            Client.due(methods[k] + " with a body", c.send(methods[k] + " /a HTTP/1.1\r\nHost: x\r\n" + body), 1);
            Client.due(methods[k] + ": number", c.asked().status(), numbers[k]);
            Client.due(methods[k] + ": reading", c.asked().reading(), 0);
        }
    }
}
