/** What is looked at when the head has ended: Host, Transfer-Encoding, Content-Length, Expect, Connection. */
public final class HeadTest {
    private static final String OLD = "GET /a HTTP/1.0\r\n";
    private static final String NEW = "GET /a HTTP/1.1\r\n";
    private static final String POST = "POST /a HTTP/1.1\r\nHost: x\r\n";

    public static void main(String[] args) {
        host();
        transferEncoding();
        contentLength();
        expect();
        order();
        connection();
        Client.finish();
    }

    private static void host() {
        Client.failsAtEnd(NEW + "\r\n", 400);
        Client.failsAtEnd("GET /a HTTP/1.2\r\n\r\n", 400);
        Client.failsAtEnd(NEW + "Host: x\r\nHost: x\r\n\r\n", 400);
        Client.failsAtEnd(NEW + "Host: x\r\nA: b\r\nhOST: y\r\n\r\n", 400);
        Client.failsAtEnd(OLD + "Host: x\r\nHost: y\r\n\r\n", 400);
        String[] wrong = {"x y", "x,y", "a_b", "a/b", "\u00e4", "a\tb", "[::1]", "a@b"};
        for (String host : wrong) {
            Client.failsAtEnd(NEW + "Host: " + host + "\r\n\r\n", 400);
            Client.failsAtEnd(OLD + "Host: " + host + "\r\n\r\n", 400);
        }
        String[] right = {"", " ", "x", "A-z.09:80", " \t a.b \t"};
        for (String host : right) {
            Client.answers(NEW + "HoSt:" + host + "\r\n\r\n", 404);
        }
        Client.due("HTTP/1.0 without a host", new Client().exchange(OLD + "\r\n"),
                Client.response(404, "", "Content-Length: 0", "Connection: close"));
    }

    private static void transferEncoding() {
        String[] wrong = {"", " , ", "gzip", "chunked, gzip", "chunked;x", "chunke", "chunkedd", "chunked chunked"};
        for (String value : wrong) {
            Client.failsAtEnd(POST + "Transfer-Encoding: " + value + "\r\n\r\n", 400);
        }
        Client.failsAtEnd(POST + "Transfer-Encoding: chunked\r\nTransfer-Encoding: gzip\r\n\r\n", 400);
        Client.failsAtEnd(POST + "Transfer-Encoding: chunked\r\nContent-Length: 1\r\n\r\n", 400);
        Client.failsAtEnd(POST + "Content-Length:\r\nTransfer-Encoding: chunked\r\n\r\n", 400);
        Client.failsAtEnd("POST /a HTTP/1.0\r\nTransfer-Encoding: chunked\r\n\r\n", 400);
        Client.failsAtEnd("POST /a HTTP/1.0\r\nTransfer-Encoding: gzip, chunked\r\n\r\n", 400);
        Client.failsAtEnd(POST + "Transfer-Encoding: gzip, chunked\r\n\r\n", 501);
        Client.failsAtEnd(POST + "Transfer-Encoding: chunked, chunked\r\n\r\n", 501);
        Client.failsAtEnd(POST + "Transfer-Encoding: gzip\r\nTransfer-Encoding: chunked\r\n\r\n", 501);
        String[] right = {"chunked", "CHUNKED", " , chunked ,\t,", "\tChunked"};
        for (String value : right) {
            Client.readsOn(POST + "TRANSFER-encoding:" + value + "\r\n\r\n", 3);
        }
        Client.readsOn(POST + "Transfer-Encoding:\r\nTransfer-Encoding: chunked\r\n\r\n", 3);
        Client.readsOn(POST.replace("1.1", "1.7") + "Transfer-Encoding: chunked\r\n\r\n", 3);
    }

    private static void contentLength() {
        String[] wrong = {"", ",", "a", "+1", "-1", "1 1", "1, 2", "1, x", "x, 1", "0x1", "0000000001", "1000000000", "1.0",
            "300, 5", "5, 300", "\u00b2"};
        for (String value : wrong) {
            Client.failsAtEnd(POST + "Content-Length: " + value + "\r\n\r\n", 400);
        }
        Client.failsAtEnd(POST + "Content-Length: 1\r\nContent-Length: 2\r\n\r\n", 400);
        Client.failsAtEnd(POST + "Content-Length: 201\r\n\r\n", 413);
        Client.failsAtEnd(POST + "Content-Length: 999999999\r\n\r\n", 413);
        Client.failsAtEnd("POST /a HTTP/1.0\r\nContent-Length: 201\r\n\r\n", 413);
        String[] right = {"1", "200", "000000001", "1, 1,01", " ,2 ,\t2,"};
        for (String value : right) {
            Client.readsOn(POST + "content-LENGTH: " + value + "\r\n\r\n", 2);
        }
        Client.readsOn(POST + "Content-Length: 3\r\nContent-Length:\r\nContent-Length: 3\r\n\r\n", 2);
        Client.readsOn("POST /a HTTP/1.0\r\nContent-Length: 1\r\n\r\n", 2);
        Client.answers(POST + "Content-Length: 0\r\n\r\n", 404);
        Client.answers(POST + "Content-Length: 000000000\r\n\r\n", 404);
        Client.answers(POST + "\r\n", 404);
    }

    private static void expect() {
        String body = "Content-Length: 1\r\n";
        String[] wrong = {"tea", "100-continue, tea", "tea, 100-continue", "100-continued", "100 continue", "100-continue;x"};
        for (String value : wrong) {
            Client.failsAtEnd(POST + "Expect: " + value + "\r\n\r\n", 417);
            Client.failsAtEnd(POST + body + "Expect: " + value + "\r\n\r\n", 417);
        }
        Client.failsAtEnd(POST + "Expect: 100-continue\r\nExpect: tea\r\n\r\n", 417);
        String hundred = Client.response(100, "");
        String[] right = {"100-continue", "100-Continue", ",100-CONTINUE , 100-continue,"};
        for (String value : right) {
            Client c = new Client();
            Client.due("expect " + value, c.exchange(POST + body + "Expect: " + value + "\r\n\r\n"), hundred);
            Client.due("its stage", c.asked().reading(), 2);
            Client.due("open", c.asked().isOpen(), true);
            Client.due("then the response", c.exchange("z"), Client.response(404, "", "Content-Length: 0"));
        }
        Client chunks = new Client();
        Client.due("chunks", chunks.exchange(POST + "Transfer-Encoding: chunked\r\nExpect: 100-continue\r\n\r\n"), hundred);
        Client.due("their stage", chunks.asked().reading(), 3);
        Client.answers(POST + "Expect: 100-continue\r\n\r\n", 404);
        Client.answers(POST + "Content-Length: 0\r\nExpect: 100-continue\r\n\r\n", 404);
        Client.readsOn(POST + body + "Expect:\r\n\r\n", 2);
        Client.readsOn("POST /a HTTP/1.0\r\n" + body + "Expect: 100-continue\r\n\r\n", 2);
        Client two = new Client();
        Client.due("a 100 and a response", two.send(POST + body + "Expect: 100-continue\r\n\r\nz"), 2);
        Client.due("HTTP/1.0 behind it", two.send("POST /a HTTP/1.0\r\n" + body + "Expect: 100-continue\r\n\r\n"), 0);
        Client.readsOn("POST /a HTTP/1.0\r\n" + body + "Expect: tea\r\n\r\n", 2);
    }

    private static void order() {
        Client.failsAtEnd(NEW + "Transfer-Encoding: gzip, chunked\r\nExpect: tea\r\n\r\n", 400);
        Client.failsAtEnd(POST + "Expect: tea\r\nTransfer-Encoding: gzip, chunked\r\n\r\n", 501);
        Client.failsAtEnd(POST + "Content-Length: 201\r\nTransfer-Encoding: gzip, chunked\r\n\r\n", 400);
        Client.failsAtEnd(POST + "Expect: tea\r\nContent-Length: 201\r\n\r\n", 413);
        Client.failsAtEnd(POST + "Expect: tea\r\nContent-Length: 1, 2\r\n\r\n", 400);
        Client.failsAtEnd("POST /a HTTP/1.1\r\nHost: x y\r\nContent-Length: 201\r\n\r\n", 400);
    }

    private static void connection() {
        String none = Client.response(404, "", "Content-Length: 0");
        String close = Client.response(404, "", "Content-Length: 0", "Connection: close");
        String keep = Client.response(404, "", "Content-Length: 0", "Connection: keep-alive");
        String now = NEW + Client.HOST;
        persists(now, none, true);
        persists(now + "Connection: keep-alive\r\n", none, true);
        persists(now + "Connection: closed, clos\r\n", none, true);
        persists(now + "Connection: close\r\n", close, false);
        persists(now + "Connection: foo ,\tCLOSE\r\n", close, false);
        persists(now + "Connection: foo\r\nconnection: keep-alive, Close\r\n", close, false);
        persists(OLD, close, false);
        persists(OLD + "Connection: foo\r\n", close, false);
        persists(OLD + "Connection: keep-alive\r\n", keep, true);
        persists(OLD + "Connection: foo,Keep-Alive\r\n", keep, true);
        persists(OLD + "Connection: foo\r\nConnection: keep-alive\r\n", keep, true);
        persists(OLD + "Connection: keep-alive, close\r\n", close, false);
        persists("GET /a HTTP/1.3\r\nHost: x\r\n", none, true);
        persists(now + ("Connection:" + "a,".repeat(34) + "\r\n").repeat(10) + "Connection: close\r\n", close, false);
        Client c = new Client();
        Client.due("each request stands for itself",
                c.exchange(OLD + "Connection: keep-alive\r\n\r\n" + now + "\r\n" + OLD + "\r\n"), keep + none + close);
    }

    private static void persists(String head, String response, boolean open) {
        Client c = new Client();
        Client.due(head, c.exchange(head + "\r\n"), response);
        Client.due(head + ": open", c.asked().isOpen(), open);
        Client.due(head + ": reading", c.asked().reading(), open ? 0 : -1);
    }
}
