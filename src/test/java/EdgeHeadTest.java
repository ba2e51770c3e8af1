/** The boundary cases that the document names under HOST, TRANSFER-ENCODING, CONTENT-LENGTH, EXPECT and CONNECTION. */
public final class EdgeHeadTest {
    private static final String OLD = "PUT /a HTTP/1.0\r\n";
    private static final String BARE = "PUT /a HTTP/1.1\r\n";
    private static final String NEW = BARE + "Host: x\r\n";
    private static final String END = "\r\n\r\n";

    private static final String LETTERS_DIGITS =
            "abcdefghijklmnopqrstuvwxyzABCDEFGHIJKLMNOPQRSTUVWXYZ0123456789";

    public static void main(String[] args) {
        severalHosts();
        noHost();
        hostBytes();
        codingsOfOldVersions();
        codingsWithLength();
        elements();
        lastCodingIsChunked();
        noOtherCodings();
        lengthDigits();
        lengthsOfOneValue();
        atLeastOneLength();
        lengthUpTo200();
        noBody();
        expectationsOfOldVersions();
        otherExpectations();
        continueAtOnce();
        closeElement();
        keepAliveElement();
        orderOfTheChecks();
        Client.finish();
    }

    /** Whether a byte cannot stand in a value at all. */
    private static boolean isControl(int b) {
        return b < 32 && b != 9 || b == 127;
    }

    private static void severalHosts() {
        Client.sentence("HOST: 400 when there are several.");
        String[] versions = {"1.0", "1.1", "1.9"};
        for (String version : versions) {
            String line = "GET /a HTTP/" + version + "\r\nConnection: keep-alive\r\n";
            Client.answers(line + "Host: x" + END, 404);
            Client.failsAtEnd(line + "Host: x\r\nHost: x" + END, 400);
            Client.failsAtEnd(line + "Host: x\r\nA: b\r\nHOST:" + END, 400);
            Client.failsAtEnd(line + "Host:\r\nhost:" + END, 400);
            Client.failsAtEnd(line + "Host: x\r\n".repeat(11) + "\r\n", 400);
        }
    }

    private static void noHost() {
        Client.sentence("400 when there is none and the version's last digit is not 0.");
        for (int digit = 0; digit <= 9; digit++) {
            String[] heads = {"GET /a HTTP/1." + digit + "\r\nConnection: keep-alive", "GET /a HTTP/1." + digit
                    + "\r\nHosts: x\r\nHos: x\r\nX-Host: x\r\nConnection: keep-alive"};
            for (String head : heads) {
                if (digit == 0) {
                    Client.answers(head + END, 404);
                } else {
                    Client.failsAtEnd(head + END, 400);
                }
                Client.answers(head + "\r\nHost:" + END, 404);
            }
        }
    }

    private static void hostBytes() {
        Client.sentence("400 when it has other bytes than letters, digits, points, - and colons.");
        for (int b = 0; b < 256; b++) {
            if (isControl(b)) {
                continue;
            }
            boolean fits = (LETTERS_DIGITS + ".-:").indexOf(b) >= 0;
            String host = "Host: x" + (char) b + "x";
            if (fits) {
                Client.answers(Client.get("/a").replace("Host: x", host), 404);
            } else {
                Client.failsAtEnd(BARE + host + END, 400);
                Client.failsAtEnd(OLD + host + END, 400);
            }
            boolean blank = b == 32 || b == 9;
            if (!fits && !blank) {
                Client.failsAtEnd(BARE + "Host: " + (char) b + END, 400);
            }
        }
        Client.answers(BARE + "Host:" + END, 201);
        Client.answers(BARE + "Host: \t" + END, 201);
        Client.answers(BARE + "Host:" + "x".repeat(75) + END, 201);
        Client.failsAtEnd(BARE + "Host:" + "x".repeat(74) + "_" + END, 400);
    }

    private static void codingsOfOldVersions() {
        Client.sentence("TRANSFER-ENCODING: 400 when the version's last digit is 0.");
        for (int digit = 0; digit <= 9; digit++) {
            String head = "PUT /a HTTP/1." + digit + "\r\nHost: x\r\nTransfer-Encoding: ";
            if (digit == 0) {
                Client.failsAtEnd(head + "chunked" + END, 400);
                Client.failsAtEnd(head + "gzip, chunked" + END, 400);
                Client.failsAtEnd(head + END, 400);
            } else {
                Client.readsOn(head + "chunked" + END, 3);
            }
        }
    }

    private static void codingsWithLength() {
        Client.sentence("TRANSFER-ENCODING: 400 when there is a CONTENT-LENGTH.");
        String[] lengths = {"Content-Length: 0", "Content-Length: 1", "Content-Length:", "Content-Length: 201", "content-length: x"};
        for (String length : lengths) {
            Client.failsAtEnd(NEW + "Transfer-Encoding: chunked\r\n" + length + END, 400);
            Client.failsAtEnd(NEW + length + "\r\nTransfer-Encoding: chunked" + END, 400);
            Client.failsAtEnd(NEW + length + "\r\nTransfer-Encoding: gzip, chunked" + END, 400);
            Client.failsAtEnd(NEW + length + "\r\nTransfer-Encoding:" + END, 400);
        }
        Client.readsOn(NEW + "Transfer-Encoding: chunked\r\nContent-Lengths: 1\r\nContent-Lengt: 1" + END, 3);
    }

    private static void elements() {
        Client.sentence("A field's ELEMENTS (those of all fields of its name, parted by commas, without blanks at their ends, empty ones not counted).");
        String[] chunked = {"chunked", ",chunked", "chunked,", ",,,chunked,,,", " \tchunked\t ", ", \t,\tchunked \t, ,"};
        for (String value : chunked) {
            Client.readsOn(NEW + "Transfer-Encoding:" + value + END, 3);
            Client.readsOn(NEW + "Transfer-Encoding:\r\nTransfer-Encoding:" + value + "\r\nTransfer-Encoding: ," + END, 3);
        }
        Client.failsAtEnd(NEW + "Transfer-Encoding: chun ked" + END, 400);
        Client.failsAtEnd(NEW + "Transfer-Encoding: chunked;" + END, 400);
        Client.failsAtEnd(NEW + "Transfer-Encoding: chun\r\nTransfer-Encoding: ked" + END, 400);
        // As many elements as lines of 80 bytes in eleven fields can have, with the one that counts behind them.
        String many = "Connection:" + "a,".repeat(34) + "b\r\n";
        Client c = new Client();
        Client.due("many elements", c.exchange(NEW + many.repeat(10) + "Connection: close" + END),
                Client.response(201, "", "Content-Length: 0", "Connection: close"));
        String lengths = "Content-Length:" + "7,".repeat(32) + "7\r\n";
        Client.readsOn(NEW + lengths.repeat(11) + "\r\n", 2);
        Client.failsAtEnd(NEW + lengths.repeat(10) + lengths.substring(0, lengths.length() - 3) + "8" + END, 400);
        String[] commas = {"Connection: close, a", "Connection: a, close", "Connection: a ,close,b", "Connection: a\r\nConnection: close"};
        for (String field : commas) {
            Client.due(field, new Client().exchange(NEW + field + END),
                    Client.response(201, "", "Content-Length: 0", "Connection: close"));
        }
        String[] others = {"Connection: close a", "Connection: a close", "Connection: close;a", "Connection: clo,se", "Connections: close",
            "Connection: \"close\""};
        for (String field : others) {
            Client.due(field, new Client().exchange(NEW + field + END), Client.empty(201));
        }
    }

    private static void lastCodingIsChunked() {
        Client.sentence("400 when the last one is not \"chunked\" (or there is none).");
        String[] wrong = {"", " ", ",", " ,\t, ", "gzip", "chunked, gzip", "chunked,gzip,", "chunke", "hunked", "chunkedx", "xchunked",
            "chunked chunked", "chunked;q=1", "\"chunked\"", "chunked, identity"};
        for (String value : wrong) {
            Client.failsAtEnd(NEW + "Transfer-Encoding: " + value + END, 400);
        }
        Client.failsAtEnd(NEW + "Transfer-Encoding: chunked\r\nTransfer-Encoding: gzip" + END, 400);
        Client.failsAtEnd(NEW + "Transfer-Encoding:\r\nTransfer-Encoding:" + END, 400);
        Client.readsOn(NEW + "Transfer-Encoding: chunked" + END, 3);
    }

    private static void noOtherCodings() {
        Client.sentence("501 when there are others.");
        String[] others = {"gzip, chunked", "chunked, chunked", "a,b,c,chunked", "gzip,, chunked,"};
        for (String value : others) {
            Client.failsAtEnd(NEW + "Transfer-Encoding: " + value + END, 501);
        }
        Client.failsAtEnd(NEW + "Transfer-Encoding: gzip\r\nTransfer-Encoding: chunked" + END, 501);
        Client.failsAtEnd(NEW + "Transfer-Encoding: chunked\r\nTransfer-Encoding: chunked" + END, 501);
    }

    private static void lengthDigits() {
        Client.sentence("CONTENT-LENGTH: its elements are numbers, 1 to 9 digits each, otherwise 400.");
        for (int n = 1; n <= 12; n++) {
            String value = "0".repeat(n - 1) + "7";
            if (n <= 9) {
                Client.readsOn(NEW + "Content-Length: " + value + END, 2);
                Client.readsOn(NEW + "Content-Length: 7, " + value + END, 2);
            } else {
                Client.failsAtEnd(NEW + "Content-Length: " + value + END, 400);
                Client.failsAtEnd(NEW + "Content-Length: 7, " + value + END, 400);
            }
        }
        Client.failsAtEnd(NEW + "Content-Length: 999999999" + END, 413);
        String[] tooLong = {"1000000000", "0000000000", "4294967296", "4294967303", "18446744073709551617", "9".repeat(60)};
        for (String value : tooLong) {
            Client.failsAtEnd(NEW + "Content-Length: " + value + END, 400);
        }
        for (int b = 0; b < 256; b++) {
            boolean parts = b == 32 || b == 9 || b == ',';
            if (isControl(b) || parts || b >= '0' && b <= '9') {
                continue;
            }
            String[] values = {"" + (char) b, (char) b + "1", "1" + (char) b, "1" + (char) b + "1", "1, " + (char) b, (char) b + ", 1"};
            for (String value : values) {
                Client.failsAtEnd(NEW + "Content-Length: " + value + END, 400);
            }
        }
        Client.failsAtEnd(NEW + "Content-Length: 1 1" + END, 400);
        Client.failsAtEnd(NEW + "Content-Length: 1\t1" + END, 400);
    }

    private static void lengthsOfOneValue() {
        Client.sentence("All of one value, otherwise 400.");
        String[] right = {"5", "5, 5", "5,05,005,000000005", ",5,,5,"};
        for (String value : right) {
            Client.readsOn(NEW + "Content-Length: " + value + END, 2);
        }
        String[] wrong = {"5, 6", "6, 5", "5, 5, 6", "5, 6, 5", "5, 50", "5, 0", "0, 5", "201, 5", "5, 201", "5, x", "x, 5", "x, x"};
        for (String value : wrong) {
            Client.failsAtEnd(NEW + "Content-Length: " + value + END, 400);
            Client.failsAtEnd(NEW + "Content-Length: " + value.replace(", ", "\r\nContent-Length: ") + END, 400);
        }
        Client.readsOn(NEW + "Content-Length: 5\r\nA: 6\r\ncontent-length: 05" + END, 2);
        Client.failsAtEnd(NEW + "Content-Length: 201, 0201, 202" + END, 400);
        Client.failsAtEnd(NEW + "Content-Length: 201, 0201" + END, 413);
    }

    private static void atLeastOneLength() {
        Client.sentence("At least one, otherwise 400.");
        String[] wrong = {"", " \t", ",", " , ,", ",,,,"};
        for (String value : wrong) {
            Client.failsAtEnd(NEW + "Content-Length:" + value + END, 400);
            Client.failsAtEnd(OLD + "Content-Length:" + value + END, 400);
            Client.failsAtEnd(NEW + "Content-Length:" + value + "\r\nContent-Length:" + END, 400);
            Client.readsOn(NEW + "Content-Length:" + value + "\r\nContent-Length: 1" + END, 2);
        }
        // A number stands where the length of the request before stood, but is none of this one.
        Client c = new Client();
        c.send(NEW + "Content-Length: 1" + END + "z");
        Client.failsAtEnd(c, NEW + "Another-Field-: 1" + "\r\nContent-Length:" + END, 400);
    }

    private static void lengthUpTo200() {
        Client.sentence("413 when they are more than 200.");
        for (int length = 1; length <= 200; length++) {
            Client.readsOn(NEW + "Content-Length: " + length + END, 2);
        }
        int[] more = {201, 202, 255, 256, 257, 999, 1000, 65536, 100000000, 999999999};
        for (int length : more) {
            Client.failsAtEnd(NEW + "Content-Length: " + length + END, 413);
            Client.failsAtEnd(OLD + "Content-Length: " + length + END, 413);
        }
        Client.failsAtEnd(Client.withA("hello"), "POST /a HTTP/1.1\r\nHost: x\r\nContent-Length: 201" + END, 413);
        Client.failsAtEnd("GET /a HTTP/1.1\r\nHost: x\r\nContent-Length: 201" + END, 413);
        Client.failsAtEnd(NEW + "Content-Length: 000000201" + END, 413);
        Client.readsOn(NEW + "Content-Length: 000000200" + END, 2);
    }

    private static void noBody() {
        Client.sentence("The body has so many bytes. (Without both it has none.)");
        Client.answers(NEW + "\r\n", 201);
        Client.answers(NEW + "Content-Length: 0" + END, 201);
        Client.answers(NEW + "Content-Length: 000000000, 0" + END, 201);
        Client.answers(NEW + "Content-Length: 1" + END + "z", 201);
        Client c = new Client();
        Client.due("no body and the next request", c.send(NEW + "\r\n" + NEW + "Content-Length: 0" + END + Client.get("/a")), 3);
        Client.due("what is there", c.site(), "changes 2, a of mark 2: ");
    }

    private static void expectationsOfOldVersions() {
        Client.sentence("EXPECT, if the version's last digit is not 0.");
        String keep = "Connection: keep-alive\r\n";
        for (int digit = 0; digit <= 9; digit++) {
            String head = "PUT /a HTTP/1." + digit + "\r\nHost: x\r\n" + keep + "Content-Length: 1\r\nExpect: ";
            Client c = new Client();
            Client.due(head, c.send(head + "100-continue" + END), digit == 0 ? 0 : 1);
            Client.due(head + " reading", c.asked().reading(), 2);
            if (digit == 0) {
                Client.readsOn(head + "tea" + END, 2);
            } else {
                Client.failsAtEnd(head + "tea" + END, 417);
            }
        }
    }

    private static void otherExpectations() {
        Client.sentence("417 when an element is not \"100-continue\".");
        String[] wrong = {"tea", "100-continue, tea", "tea, 100-continue", "100-continue,100-continue,x", "100", "100-continu",
            "00-continue", "100-continues", "100-continue=1", "100 -continue", "\"100-continue\"", ",x,"};
        String[] bodies = {"", "Content-Length: 1\r\n", "Transfer-Encoding: chunked\r\n"};
        for (String value : wrong) {
            for (String body : bodies) {
                Client.failsAtEnd(NEW + body + "Expect: " + value + END, 417);
                Client.failsAtEnd(NEW + "Expect: " + value + "\r\n" + body + "\r\n", 417);
            }
        }
        Client.failsAtEnd(NEW + "Expect: 100-continue\r\nExpect: tea" + END, 417);
        Client.answers(NEW + "Expect:" + END, 201);
        Client.answers(NEW + "Expect: ,\t," + END, 201);
        Client.readsOn(NEW + "Content-Length: 1\r\nExpect: ," + END, 2);
    }

    private static void continueAtOnce() {
        Client.sentence("If there is one, and the body is chunked or has some bytes, a response 100 is sent at once.");
        String[] bodies = {"Content-Length: 1", "Content-Length: 200", "Transfer-Encoding: chunked"};
        int[] stages = {2, 2, 3};
        String hundred = Client.response(100, "");
        for (int k = 0; k < bodies.length; k++) {
            Client c = new Client();
            Client.due("before the head has ended", c.send(NEW + "Expect: 100-continue\r\n" + bodies[k] + "\r\n\r"), 0);
            Client.due("at once", c.exchange("\n"), hundred);
            Client.due("status", c.asked().status(), 100);
            Client.due("open", c.asked().isOpen(), true);
            Client.due("reading", c.asked().reading(), stages[k]);
            Client.due("not a second time", c.send("1"), k == 0 ? 1 : 0);
        }
        Client.due("two elements, one response", new Client().exchange(NEW + "Content-Length: 1\r\nExpect: 100-continue, 100-continue"
                + "\r\nExpect: 100-continue" + END), hundred);
        Client.due("a body of no bytes", new Client().exchange(NEW + "Content-Length: 0\r\nExpect: 100-continue" + END), Client.empty(201));
        Client.due("no body", new Client().exchange(NEW + "Expect: 100-continue" + END), Client.empty(201));
        Client.due("an empty body of chunks", new Client().exchange(NEW + "Transfer-Encoding: chunked\r\nExpect: 100-continue" + END
                + "0\r\n\r\n"), hundred + Client.empty(201));
        Client.due("the last request", new Client().exchange(NEW + "Connection: close\r\nContent-Length: 1\r\nExpect: 100-continue" + END
                + "z"), hundred + Client.response(201, "", "Content-Length: 0", "Connection: close"));
        Client next = new Client();
        next.send(NEW + "Content-Length: 1\r\nExpect: 100-continue" + END + "z");
        Client.due("the next request has none", next.exchange(NEW + "Content-Length: 1" + END), "");
    }

    private static void lastOne(String wire, boolean isLast, String... fields) {
        Client c = new Client();
        Client.due(wire, c.exchange(wire), Client.response(201, "", fields));
        Client.due(wire + ": open", c.asked().isOpen(), !isLast);
        Client.due(wire + ": reading", c.asked().reading(), isLast ? -1 : 0);
        Client.due(wire + ": the next request", c.send(Client.get("/a")), isLast ? 0 : 1);
    }

    private static void closeElement() {
        Client.sentence("CONNECTION: an element \"close\" makes it the last request.");
        String[] right = {"close", "Close", "a, close", "close, keep-alive", "keep-alive,close", ",close,", "a\r\nConnection: close"};
        for (String value : right) {
            lastOne(NEW + "Connection: " + value + END, true, "Content-Length: 0", "Connection: close");
            lastOne(OLD + "Connection: " + value + END, true, "Content-Length: 0", "Connection: close");
        }
        String[] wrong = {"", ",", "clos", "lose", "closed", "xclose", "close x", "close;", "keep-alive"};
        for (String value : wrong) {
            lastOne(NEW + "Connection: " + value + END, false, "Content-Length: 0");
        }
        lastOne(NEW + "Connection: close\r\nContent-Length: 1" + END + "z", true, "Content-Length: 0", "Connection: close");
        lastOne(NEW + "Transfer-Encoding: chunked" + END + "0\r\nConnection: close" + END, false, "Content-Length: 0");
    }

    private static void keepAliveElement() {
        Client.sentence("So does a last digit 0 of the version, without an element \"keep-alive\".");
        String[] without = {"", "Connection:\r\n", "Connection: a\r\n", "Connection: keep-aliv\r\n", "Connection: eep-alive\r\n",
            "Connection: keep-alives\r\n", "Connection: keep alive\r\n", "Keep-Alive: 1\r\n"};
        for (String field : without) {
            lastOne(OLD + field + "\r\n", true, "Content-Length: 0", "Connection: close");
            lastOne(NEW + field + "\r\n", false, "Content-Length: 0");
        }
        String[] with = {"keep-alive", "KEEP-alive", "a,keep-alive", "keep-alive ,\ta", "a\r\nConnection: keep-alive"};
        for (String value : with) {
            lastOne(OLD + "Connection: " + value + END, false, "Content-Length: 0", "Connection: keep-alive");
        }
        for (int digit = 1; digit <= 9; digit++) {
            lastOne(NEW.replace("1.1", "1." + digit) + "\r\n", false, "Content-Length: 0");
        }
    }

    private static void orderOfTheChecks() {
        Client.sentence("Then, in this order: HOST, TRANSFER-ENCODING, CONTENT-LENGTH, EXPECT, CONNECTION.");
        String host = "Host: _\r\n";
        String coding = "Transfer-Encoding: gzip, chunked\r\n";
        String length = "Content-Length: 201\r\n";
        String expect = "Expect: tea\r\n";
        Client.failsAtEnd(BARE + expect + length + coding + host + "\r\n", 400);
        Client.failsAtEnd(BARE + expect + coding + host + "\r\n", 400);
        Client.failsAtEnd(BARE + expect + length + host + "\r\n", 400);
        Client.failsAtEnd(BARE + expect + host + "\r\n", 400);
        Client.failsAtEnd(NEW + expect + length + coding + "\r\n", 400);
        Client.failsAtEnd(NEW + expect + coding + "\r\n", 501);
        Client.failsAtEnd(NEW + expect + length + "\r\n", 413);
        Client.failsAtEnd(NEW + expect + "Connection: close" + END, 417);
        Client.failsAtEnd(NEW + expect + "Content-Length: x" + END, 400);
        // A head is looked at when it has ended, so a later line's error comes first.
        Client.failsAtEnd(BARE + host + length + "bad\r\n", 400);
        Client.failsAtEnd(BARE + length.repeat(12) + length, 431);
    }
}
