import java.util.Random;

/** However a run of bytes is cut into pieces, what is answered to it is the same. */
public final class PieceTest {
    private static final String CHUNKED = "PUT /b HTTP/1.1\r\nHost: x\r\nTransfer-Encoding: chunked\r\n";

    // Wires and how many responses each of them gets.
    private static final String[] WIRES = {
        "\r\n" + Client.put("/a", "hello\r\n\r\n") + Client.get("/a", "Range: bytes=1-3"),
        CHUNKED + "Expect: 100-continue\r\n\r\n3;x=y\r\nabc\r\nA\r\n0123456789\r\n0\r\nT: v\r\n\r\n" + Client.get("/b"),
        Client.put("/c", "") + Client.get("/") + Client.ask("HEAD", "/c") + Client.ask("OPTIONS", "*"),
        Client.get("/a") + "GET /a\n" + Client.get("/a"),
        Client.get("/a") + "GET /a HTTP/1.1\r\n\r\n" + Client.get("/a"),
        Client.get("/a", "Connection: close") + Client.get("/a"),
        Client.get("/a") + "x".repeat(90),
        CHUNKED + "\r\n1\r\nab" + Client.get("/a"),
        Client.get("/a") + "GET /a HT"};
    private static final int[] RESPONSES = {2, 3, 4, 2, 2, 1, 2, 1, 1};

    public static void main(String[] args) {
        for (int k = 0; k < WIRES.length; k++) {
            piecesOfOneSize(WIRES[k], RESPONSES[k]);
        }
        Client.sentence("Bytes come in pieces of any size.");
        for (int k = 0; k < WIRES.length; k++) {
            piecesOfAnySize(WIRES[k], RESPONSES[k], k);
        }
        Client.sentence("What is fed is read byte by byte.");
        for (String wire : WIRES) {
            everyBeginning(wire);
        }
        Client.finish();
    }

    private static Client fed(String wire, int piece) {
        Client c = new Client(piece);
        c.send(wire);
        return c;
    }

    private static void piecesOfOneSize(String wire, int responses) {
        String due = fed(wire, 1).state();
        for (int piece = 1; piece <= 8; piece++) {
            Client c = new Client(piece);
            Client.due("pieces of " + piece + ": responses", c.send(wire), responses);
            Client.due("pieces of " + piece + ": all that can be asked", c.state(), due);
        }
    }

    /** Pieces of 0 to 8 bytes, whose sizes are the same in each run of the test. */
    private static void piecesOfAnySize(String wire, int responses, int seed) {
        String due = fed(wire, 1).state();
        Random sizes = new Random(seed);
        for (int round = 0; round < 20; round++) {
            Client c = new Client();
            int sent = 0;
            int n;
            for (int from = 0; from < wire.length(); from += n) {
                n = Math.min(sizes.nextInt(9), wire.length() - from);
                sent += c.asked().feed(Client.word(wire, from, n), n);
            }
            Client.due("round " + round + ": responses", sent, responses);
            Client.due("round " + round + ": all that can be asked", c.state(), due);
        }
    }

    /** No byte has to wait for those behind it. */
    private static void everyBeginning(String wire) {
        for (int end = 0; end <= wire.length(); end++) {
            String part = wire.substring(0, end);
            Client.due(part, fed(part, 8).state(), fed(part, 1).state());
        }
    }
}
