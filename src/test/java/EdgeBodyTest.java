/** The boundary cases that the document names under THE BODY. */
public final class EdgeBodyTest {
    private static final int CR = 13;
    private static final int LF = 10;
    private static final String PUT = "PUT /a HTTP/1.1\r\nHost: x\r\n";
    private static final String CHUNKED = PUT + "Transfer-Encoding: chunked\r\n\r\n";
    private static final String LAST = CHUNKED + "0\r\n";

    public static void main(String[] args) {
        soManyBytes();
        anyBytes();
        chunkDigits();
        chunkDigitBytes();
        chunkExtensions();
        chunksUpTo200();
        behindAChunk();
        lastChunk();
        trailers();
        fifthTrailer();
        trailersAreNotUsed();
        Client.finish();
    }

    /** The text is one PUT of a with this content, which is there at its last byte and not before. */
    private static void puts(String wire, String content) {
        Client c = new Client();
        Client.due(wire + ": before its end", c.send(wire.substring(0, wire.length() - 1)), 0);
        Client.due(wire + ": the site before its end", c.site(), "changes 0");
        Client.due(wire + ": what is sent", c.exchange(wire.substring(wire.length() - 1)), Client.empty(201));
        Client.due(wire + ": reading", c.asked().reading(), 0);
        Client.due(wire + ": the site", c.site(), "changes 1, a of mark 1: " + content);
    }

    private static void soManyBytes() {
        Client.sentence("THE BODY: so many bytes.");
        int[] lengths = {1, 2, 7, 8, 9, 79, 80, 81, 127, 128, 129, 199, 200};
        for (int length : lengths) {
            puts(Client.put("/a", "z".repeat(length)), "z".repeat(length));
            Client c = new Client();
            Client.due("a body, then a request", c.send(Client.put("/a", "z".repeat(length)) + Client.get("/b")), 2);
            Client.due("its size", c.asked().size(0), length);
        }
        puts(Client.put("/a", ""), "");
        puts(PUT + "\r\n", "");
    }

    private static void anyBytes() {
        Client.sentence("THE BODY: so many bytes, or as many bytes in a chunk, of any kind.");
        for (int b = 0; b < 256; b++) {
            String twice = "" + (char) b + (char) b;
            puts(Client.put("/a", twice), twice);
            puts(CHUNKED + "2\r\n" + twice + "\r\n0\r\n\r\n", twice);
        }
        String lines = "\r\n\r\n0\r\n\r\nGET / HTTP/1.1\r\n\n\r";
        puts(Client.put("/a", lines), lines);
        puts(CHUNKED + Integer.toHexString(lines.length()) + "\r\n" + lines + "\r\n0\r\n\r\n", lines);
    }

    private static void chunkDigits() {
        Client.sentence("CHUNKS: a line with 1 to 3 digits to the base 16, otherwise 400.");
        String[] right = {"2", "02", "002", "2;", "002;x"};
        for (String line : right) {
            puts(CHUNKED + line + "\r\nzz\r\n0\r\n\r\n", "zz");
        }
        String[] wrong = {"", ";", ";x", ";2", "0002", "0002;x", "0000", "00002", "1000", "10000002", "0".repeat(80), "ffff"};
        for (String line : wrong) {
            Client.failsAtEnd(CHUNKED + line + "\r\n", 400);
            Client.failsAtEnd(CHUNKED + "1\r\nz\r\n" + line + "\r\n", 400);
        }
        puts(CHUNKED + "0\r\n\r\n", "");
        puts(CHUNKED + "000\r\n\r\n", "");
    }

    private static void chunkDigitBytes() {
        Client.sentence("Digits to the base 16, and perhaps a semicolon behind; otherwise 400.");
        for (int b = 0; b < 256; b++) {
            if (b == CR || b == LF) {
                continue;
            }
            int value = b < 128 ? Character.digit(b, 16) : -1;
            if (value < 0) {
                Client.failsAtEnd(CHUNKED + (char) b + "\r\n", 400);
                Client.failsAtEnd(CHUNKED + (char) b + "1\r\n", 400);
            } else if (value > 0) {
                puts(CHUNKED + (char) b + "\r\n" + "z".repeat(value) + "\r\n0\r\n\r\n", "z".repeat(value));
                puts(CHUNKED + "00" + (char) b + "\r\n" + "z".repeat(value) + "\r\n0\r\n\r\n", "z".repeat(value));
            }
            if (b != ';' && value < 0) {
                Client.failsAtEnd(CHUNKED + "1" + (char) b + "\r\n", 400);
                Client.failsAtEnd(CHUNKED + "0" + (char) b + "1;x\r\n", 400);
            }
        }
        puts(CHUNKED + "1f\r\n" + "z".repeat(31) + "\r\n0\r\n\r\n", "z".repeat(31));
        puts(CHUNKED + "0A0\r\n" + "z".repeat(160) + "\r\n0\r\n\r\n", "z".repeat(160));
    }

    private static void chunkExtensions() {
        Client.sentence("A semicolon and anything but bytes below 32 other than 9, and 127, otherwise 400.");
        for (int b = 0; b < 256; b++) {
            if (b == CR || b == LF) {
                continue;
            }
            boolean fits = b >= 32 && b != 127 || b == 9;
            String[] lines = {"1;" + (char) b, "1;x" + (char) b + "x", "001; x=" + (char) b};
            for (String line : lines) {
                if (fits) {
                    puts(CHUNKED + line + "\r\nz\r\n0;" + (char) b + "\r\n\r\n", "z");
                } else {
                    Client.failsAtEnd(CHUNKED + line + "\r\n", 400);
                    Client.failsAtEnd(CHUNKED + "0;" + (char) b + "\r\n", 400);
                }
            }
        }
        puts(CHUNKED + "1;\r\nz\r\n0;\r\n\r\n", "z");
        Client.failsAtEnd(CHUNKED + "1 ;x\r\n", 400);
        Client.failsAtEnd(CHUNKED + "1\t;x\r\n", 400);
    }

    private static String chunk(int size) {
        return Integer.toHexString(size) + "\r\n" + "z".repeat(size) + "\r\n";
    }

    private static void chunksUpTo200() {
        Client.sentence("413 when all chunks would be more than 200 bytes.");
        int[] firsts = {1, 2, 72, 100, 198, 199};
        for (int first : firsts) {
            puts(CHUNKED + chunk(first) + chunk(200 - first) + "0\r\n\r\n", "z".repeat(200));
            Client.failsAtEnd(CHUNKED + chunk(first) + Integer.toHexString(201 - first) + "\r\n", 413);
            Client.failsAtEnd(CHUNKED + chunk(first) + chunk(200 - first) + "1\r\n", 413);
            Client.failsAtEnd(CHUNKED + chunk(first) + "fff\r\n", 413);
        }
        puts(CHUNKED + chunk(200) + "0\r\n\r\n", "z".repeat(200));
        Client.failsAtEnd(CHUNKED + chunk(200) + "1\r\n", 413);
        int[] more = {201, 202, 255, 256, 512, 4095};
        for (int size : more) {
            Client.failsAtEnd(CHUNKED + Integer.toHexString(size) + "\r\n", 413);
            Client.failsAtEnd(CHUNKED + Integer.toHexString(size) + ";x\r\n", 413);
        }
        Client.failsAtEnd(CHUNKED + chunk(50).repeat(4) + "001\r\n", 413);
        Client twice = new Client();
        String wire = CHUNKED + chunk(200) + "0\r\n\r\n";
        Client.due("each request has 200 bytes of its own", twice.send(wire + wire), 2);
        Client.due("then", twice.asked().status(), 204);
        Client kept = Client.withA("hello");
        Client.failsAtEnd(kept, CHUNKED + chunk(3) + "c6\r\n", 413);
        Client.due("what is there stays", kept.site(), "changes 1, a of mark 1: hello");
    }

    private static void behindAChunk() {
        Client.sentence("Then CR and LF, otherwise 400 at the first byte that is not that.");
        for (int b = 0; b < 256; b++) {
            if (b != CR) {
                Client.failsAtEnd(CHUNKED + "1\r\nz" + (char) b, 400);
                Client.failsAtEnd(CHUNKED + chunk(1) + "2\r\nzz" + (char) b, 400);
            }
            if (b != LF) {
                Client.failsAtEnd(CHUNKED + "1\r\nz\r" + (char) b, 400);
            }
        }
        Client.readsOn(CHUNKED + "1\r\nz", 4);
        Client.readsOn(CHUNKED + "1\r\nz\r", 4);
        Client.readsOn(CHUNKED + "1\r\nz\r\n", 3);
    }

    private static void lastChunk() {
        Client.sentence("A chunk of 0 bytes is the last one, without bytes and CR and LF.");
        String[] lines = {"0", "00", "000", "0;x", "000;"};
        for (String line : lines) {
            Client.readsOn(CHUNKED + line + "\r\n", 5);
            puts(CHUNKED + line + "\r\n\r\n", "");
            puts(CHUNKED + chunk(3) + line + "\r\n\r\n", "zzz");
            puts(CHUNKED + chunk(200) + line + "\r\n\r\n", "z".repeat(200));
        }
        Client c = new Client();
        Client.due("behind it is the next request", c.send(LAST + "\r\n" + chunk(1)), 2);
        Client.due("which is none", c.asked().status(), 400);
    }

    private static void trailers() {
        Client.sentence("Behind it come field lines, checked as above, and an empty line.");
        for (int n = 0; n <= 4; n++) {
            puts(LAST + "A: b\r\n".repeat(n) + "\r\n", "");
        }
        String[] wrong = {"A", " ", "\t", ":", ": b", " A: b", "A : b", "A: \u0001", "A: \u007f", "a b: c", "1"};
        for (String line : wrong) {
            Client.failsAtEnd(LAST + line + "\r\n", 400);
            Client.failsAtEnd(LAST + "A: b\r\n".repeat(3) + line + "\r\n", 400);
        }
        Client.failsAtEnd(LAST + "A: b\r\n" + "A:" + "b".repeat(79), 431);
        Client.failsAtEnd(LAST + "A: b\n", 400);
        Client.failsAtEnd(LAST + "A: b\rx", 400);
    }

    private static void fifthTrailer() {
        Client.sentence("A 5th one: 431.");
        Client.readsOn(LAST + "A: b\r\n".repeat(4), 5);
        Client.failsAtEnd(LAST + "A: b\r\n".repeat(5), 431);
        Client.failsAtEnd(LAST + "A: b\r\n".repeat(4) + "B:\r\n", 431);
        Client.failsAtEnd(Client.withA("hello"), LAST + "A: b\r\n".repeat(5), 431);
        String head = PUT + "Transfer-Encoding: chunked\r\n" + "A: b\r\n".repeat(10) + "\r\n";
        puts(head + chunk(1) + "0\r\n" + "A: b\r\n".repeat(4) + "\r\n", "z");
        Client.failsAtEnd(head + chunk(1) + "0\r\n" + "A: b\r\n".repeat(5), 431);
        String four = LAST + "A: b\r\n".repeat(4) + "\r\n";
        Client c = new Client();
        Client.due("the number begins anew with each request", c.exchange(four + four + LAST + "A: b\r\n".repeat(4)),
                Client.empty(201) + Client.response(204, ""));
        c.asked().connect();
        Client.due("and with each connection", c.exchange(four), Client.response(204, ""));
    }

    private static void trailersAreNotUsed() {
        Client.sentence("Field lines behind it, not used.");
        String[] lines = {"Host: y", "Host: _", "Connection: close", "Content-Length: 5", "Content-Length: x", "Transfer-Encoding: gzip",
            "Expect: tea", "Expect: 100-continue"};
        for (String line : lines) {
            puts(LAST + line + "\r\n\r\n", "");
            puts(CHUNKED + chunk(2) + "0\r\n" + (line + "\r\n").repeat(4) + "\r\n", "zz");
        }
        Client c = Client.withA("hello");
        Client.due("If-None-Match", c.exchange(LAST + "If-None-Match: *\r\n\r\n"), Client.response(204, ""));
        Client.due("then", c.site(), "changes 2, a of mark 2: ");
        Client reads = Client.withA("hello");
        Client.due("Range", reads.exchange(LAST.replace("PUT", "GET") + "Range: bytes=0-0\r\nIf-None-Match: *\r\n\r\n"),
                Client.whole("hello", 1));
    }
}
