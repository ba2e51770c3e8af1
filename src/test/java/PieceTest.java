/** However a run of bytes is cut into pieces, what is answered to it is the same. */
public final class PieceTest {
    public static void main(String[] args) {
        String chunked = "PUT /b HTTP/1.1\r\nHost: x\r\nTransfer-Encoding: chunked\r\n";
        same("\r\n" + Client.put("/a", "hello\r\n\r\n") + Client.get("/a", "Range: bytes=1-3"), 2);
        same(chunked + "Expect: 100-continue\r\n\r\n3;x=y\r\nabc\r\nA\r\n0123456789\r\n0\r\nT: v\r\n\r\n" + Client.get("/b"), 3);
        same(Client.put("/c", "") + Client.get("/") + Client.ask("HEAD", "/c") + Client.ask("OPTIONS", "*"), 4);
        same(Client.get("/a") + "GET /a\n" + Client.get("/a"), 2);
        same(Client.get("/a") + "GET /a HTTP/1.1\r\n\r\n" + Client.get("/a"), 2);
        same(Client.get("/a", "Connection: close") + Client.get("/a"), 1);
        same(Client.get("/a") + "x".repeat(90), 2);
        same(chunked + "\r\n1\r\nab" + Client.get("/a"), 1);
        same(Client.get("/a") + "GET /a HT", 1);
        Client.finish();
    }

    private static void same(String wire, int responses) {
        Client single = new Client(1);
        Client.due("single bytes: responses", single.send(wire), responses);
        String output = single.output();
        for (int piece = 2; piece <= 8; piece++) {
            Client c = new Client(piece);
            Client.due("pieces of " + piece + ": responses", c.send(wire), responses);
            Client.due("pieces of " + piece + ": status", c.asked().status(), single.asked().status());
            Client.due("pieces of " + piece + ": reading", c.asked().reading(), single.asked().reading());
            Client.due("pieces of " + piece + ": sent", c.output(), output);
        }
    }
}
