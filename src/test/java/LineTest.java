/** LINES, the request line and the field lines (promises 2 and 9 rest on them). */
public final class LineTest {
    private static final String START = "GET /a HTTP/1.1\r\n";

    public static void main(String[] args) {
        lineEnds();
        lineLengths();
        emptyLinesAreSkipped();
        requestLineForm();
        requestLineOrder();
        targets();
        fieldForm();
        fieldCount();
        Client.finish();
    }

    private static void lineEnds() {
        Client.failsAtEnd("\n", 400);
        Client.failsAtEnd("\r\r", 400);
        Client.failsAtEnd("\rG", 400);
        Client.failsAtEnd("GET /a HTTP/1.1\n", 400);
        Client.failsAtEnd("GET /a\rx", 400);
        Client.failsAtEnd("GET /a HTTP/1.1\r\r", 400);
        Client.failsAtEnd("BAD LINE \u0001\n", 400);
        Client.failsAtEnd(START + "\n", 400);
        Client.failsAtEnd(START + "Host: x\n", 400);
        Client.failsAtEnd(START + "Host: x\rY", 400);
    }

    private static void lineLengths() {
        String longTarget = "/" + "x".repeat(66);
        Client.answers("GET " + longTarget + " HTTP/1.1\r\nHost: x\r\n\r\n", 404);
        Client.failsAtEnd("GET x" + longTarget + " HTTP/1.1", 414);
        Client.failsAtEnd("x".repeat(81), 414);
        Client.failsAtEnd("\r\n" + "x".repeat(81), 414);
        Client.failsAtEnd("x".repeat(80) + "\n", 400);
        Client.failsAtEnd("x".repeat(80) + "\r\r", 400);
        Client.failsAtEnd("x".repeat(80) + "\rx", 400);
        Client.failsAtEnd("x".repeat(80) + "\r\n", 400);
        Client.answers(START + Client.HOST + "X:" + "y".repeat(78) + "\r\n\r\n", 404);
        Client.failsAtEnd(START + Client.HOST + "X:" + "y".repeat(79), 431);
        Client.failsAtEnd(START + " ".repeat(81), 431);
        Client.failsAtEnd(START + "X:" + "y".repeat(78) + "\n", 400);
    }

    private static void emptyLinesAreSkipped() {
        Client.answers("\r\n\r\n\r\n" + Client.get("/a"), 404);
        Client c = new Client(3);
        Client.due("empty lines alone", c.send("\r\n".repeat(200)), 0);
        Client.due("empty lines alone: reading", c.asked().reading(), 0);
        Client.due("then a request", c.send(Client.get("/a") + "\r\n" + Client.get("/b")), 2);
    }

    private static void requestLineForm() {
        String[] wrong = {"GET", "GET /a", "GET /aHTTP/1.1", "GET  /a HTTP/1.1", "GET /a  HTTP/1.1", "GET /a HTTP/1.1 ",
            " GET /a HTTP/1.1", " /a HTTP/1.1", "GET\t/a\tHTTP/1.1", "GET  HTTP/1.1", "  HTTP/1.1", "G@T /a HTTP/1.1", "@ET /a HTTP/1.1", "GE@ /a HTTP/1.1",
            "G\u00e4T /a HTTP/1.1", "GETTINGS /a HTTP/1.1", "OPTIONSX /a HTTP/1.1", "GET /a http/1.1", "GET /a HTTP/1.",
            "GET /a HTTP/1.11", "GET /a HTTP/11.1", "GET /a HTTP/1,1", "GET /a HTTP/a.1", "GET /a HTTP/1.a", "GET /a HTTP/1",
            "GET /a HTTP 1.1", "GET /a HTTQ/1.1", "GET /a ", "GET /a  "};
        for (String line : wrong) {
            Client.failsAtEnd(line + "\r\n", 400);
        }
    }

    private static void requestLineOrder() {
        Client.failsAtEnd("GET /a HTTP/2.0\r\n", 505);
        Client.failsAtEnd("GET /a HTTP/0.9\r\n", 505);
        Client.failsAtEnd("GETTING /a HTTP/1.1\r\n", 501);
        Client.failsAtEnd("get /a HTTP/1.1\r\n", 501);
        Client.failsAtEnd("OPTION /a HTTP/1.1\r\n", 501);
        Client.failsAtEnd("!#$%&'* /a HTTP/1.1\r\n", 501);
        Client.failsAtEnd("+-.^_`| /a HTTP/1.1\r\n", 501);
        Client.failsAtEnd("~09azAZ /a HTTP/1.1\r\n", 501);
        Client.failsAtEnd("GETTING a HTTP/2.0\r\n", 505);
        Client.failsAtEnd("GETTING a HTTP/1.1\r\n", 501);
        Client.failsAtEnd("GETTING a# HTTP/2.0\r\n", 400);
        Client.failsAtEnd("GET a HTTP/1.1\r\n", 400);
        Client.answers("GET /a HTTP/1.9\r\nHost: x\r\n\r\n", 404);
    }

    private static void targets() {
        Client.answers(Client.get("/-._~!$&'()*+,;=:@/?-._~!$&'()*+,;=:@/?"), 404);
        Client.answers(Client.get("/azAZ09%00%fF%Aa"), 404);
        String[] wrong = {"/%", "/%4", "/%4g", "/%g4", "/%%41", "/a#", "/\"", "/<", "/[", "/\\", "/^", "/`", "/{", "/|",
            "/\u007f", "/\u00e4", "/\u0001", "/\t", "/?%", "/?%4", "a", "?", "%2fa", "http://x/a", "*", "*x"};
        for (String target : wrong) {
            Client.failsAtEnd("GET " + target + " HTTP/1.1\r\n", 400);
        }
        Client.answers(Client.ask("OPTIONS", "*"), 204);
        Client.failsAtEnd("OPTIONS ** HTTP/1.1\r\n", 400);
        Client.failsAtEnd("OPTIONS *?x HTTP/1.1\r\n", 400);
        Client.failsAtEnd("OPTIONS x HTTP/1.1\r\n", 400);
        Client.failsAtEnd("PUT * HTTP/1.1\r\n", 400);
    }

    private static void fieldForm() {
        String[] wrong = {"Host : x", " Host: x", "\tHost: x", "Host", ":", ": x", "a b: x", "(a): x", "a\u00e4: x", "\"a\": x",
            "A: \u0000", "A: b\u0001c", "A: \u001f", "A: \u007f", "A: b\u007f", "A:\u000b", "A: \u0008b"};
        for (String field : wrong) {
            Client.failsAtEnd(START + field + "\r\n", 400);
        }
        String[] right = {"A:", "A: ", "A:b", "A:\t b \t", "A: b:c", "A: b\tc d", "A: \u0080\u00ff", "!#$%&'*+-.^_`|~09azAZ: x"};
        for (String field : right) {
            Client.answers(START + Client.HOST + field + "\r\n\r\n", 404);
        }
    }

    private static void fieldCount() {
        String eleven = "A: b\r\n".repeat(11);
        Client.answers(START + Client.HOST + eleven + "\r\n", 404);
        Client.failsAtEnd(START + Client.HOST + eleven + "A: b\r\n", 431);
        Client.failsAtEnd(START + Client.HOST + eleven + "A b\r\n", 400);
        Client c = new Client();
        String full = START + Client.HOST + eleven + "\r\n";
        Client.due("each request has twelve fields of its own", c.send(full + full), 2);
        Client large = new Client();
        String twelve = START + ("A:" + "b".repeat(78) + "\r\n").repeat(11) + Client.HOST + "\r\n";
        Client.due("twelve long fields, twice", large.send(twelve + twelve), 2);
        Client.due("twelve long fields: number", large.asked().status(), 404);
    }
}
