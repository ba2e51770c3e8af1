/** The boundary cases that the document names under LINES, TOKENS, A REQUEST and FIELDS. */
public final class EdgeLineTest {
    private static final int CR = 13;
    private static final int LF = 10;

    private static final String HEAD = "GET /a HTTP/1.1\r\n";
    private static final String CHUNKED = "PUT /a HTTP/1.1\r\nHost: x\r\nTransfer-Encoding: chunked\r\n\r\n";

    // The four kinds of lines: what stands before one, a right one, how it is filled up, and what too long a one is.
    private static final String[] BEFORE = {"", HEAD, CHUNKED, CHUNKED + "0\r\n"};
    private static final String[] RIGHT = {"GET /a HTTP/1.1", "Host: x", "1", "A: b"};
    private static final String[] FULL = {"GET /" + "x".repeat(66) + " HTTP/1.1", "A:" + "b".repeat(78),
        "1;" + "x".repeat(78), "A:" + "b".repeat(78)};
    private static final int[] TOO_LONG = {414, 431, 400, 431};
    private static final int[] STAGE_BEHIND = {1, 1, 4, 5};

    private static final String LETTERS_DIGITS =
            "abcdefghijklmnopqrstuvwxyzABCDEFGHIJKLMNOPQRSTUVWXYZ0123456789";
    private static final String TOKEN_BYTES = LETTERS_DIGITS + "!#$%&'*+-.^_`|~";
    private static final String TARGET_BYTES = LETTERS_DIGITS + "-._~!$&'()*+,;=:@/?";

    public static void main(String[] args) {
        lfWithoutCr();
        crWithoutLf();
        eightyBytes();
        eightyFirstByte();
        eightyFirstCrOrLf();
        otherErrorsAtLf();
        errorsClose();
        firstErrorCounts();
        tokenBytes();
        tokensAreNotEmpty();
        upperAndLowerCase();
        methodsAndHttpKeepTheirCase();
        blanks();
        emptyLinesAreSkipped();
        justTwoSpaces();
        methodOfSevenBytes();
        versionForm();
        targetBytes();
        targetEscapes();
        targetIsNotEmpty();
        firstDigitOne();
        knownMethods();
        targetBegins();
        fieldForm();
        valueBytes();
        twelveFields();
        fieldsOfOneRequest();
        emptyLineEndsHead();
        Client.finish();
    }

    private static boolean endsLine(int b) {
        return b == CR || b == LF;
    }

    private static void lfWithoutCr() {
        Client.sentence("LF without CR before it: error 400 at that LF.");
        for (int k = 0; k < BEFORE.length; k++) {
            Client.failsAtEnd(BEFORE[k] + "\n", 400);
            Client.failsAtEnd(BEFORE[k] + RIGHT[k] + "\n", 400);
            Client.readsOn(BEFORE[k] + RIGHT[k] + "\r\n", STAGE_BEHIND[k]);
        }
        Client.failsAtEnd("\r\n\n", 400);
        Client.failsAtEnd(HEAD + "Host: x\r\n\n", 400);
    }

    private static void crWithoutLf() {
        Client.sentence("CR without LF behind it: error 400 at the byte behind the CR.");
        for (int k = 0; k < BEFORE.length; k++) {
            for (int b = 0; b < 256; b++) {
                if (b != LF) {
                    Client.failsAtEnd(BEFORE[k] + RIGHT[k] + "\r" + (char) b, 400);
                    Client.failsAtEnd(BEFORE[k] + "\r" + (char) b, 400);
                }
            }
        }
    }

    private static void eightyBytes() {
        Client.sentence("A line has at most 80 bytes.");
        for (int k = 0; k < BEFORE.length; k++) {
            Client.due("bytes of a full line", FULL[k].length(), 80);
            Client.readsOn(BEFORE[k] + FULL[k] + "\r\n", STAGE_BEHIND[k]);
        }
        Client.answers(FULL[0] + "\r\n" + (FULL[1] + "\r\n").repeat(3) + "Host: x\r\n\r\n", 404);
        Client.answers("\r\n".repeat(60) + FULL[0] + "\r\nHost: x\r\n\r\n", 404);
        Client c = new Client();
        Client.due("full lines of all kinds", c.send("PUT /a?" + "x".repeat(64) + " HTTP/1.1\r\nHost: x\r\n"
                + "Transfer-Encoding: " + " ".repeat(54) + "chunked\r\n\r\n" + FULL[2] + "\r\nz\r\n0" + FULL[2].substring(1)
                + "\r\n" + FULL[3] + "\r\n\r\n"), 1);
        Client.due("what is there then", c.site(), "changes 1, a of mark 1: z");
    }

    private static void eightyFirstByte() {
        Client.sentence("At an 81st one that is neither CR nor LF the error is 414 in a request line, 431 in a field line, 400 otherwise.");
        for (int k = 0; k < BEFORE.length; k++) {
            for (int b = 0; b < 256; b++) {
                if (!endsLine(b)) {
                    Client.failsAtEnd(BEFORE[k] + FULL[k] + (char) b, TOO_LONG[k]);
                }
            }
            // No other error of the line is found before it.
            Client.failsAtEnd(BEFORE[k] + " ".repeat(81), TOO_LONG[k]);
            Client.failsAtEnd(BEFORE[k] + "\u0001".repeat(81), TOO_LONG[k]);
        }
        Client.failsAtEnd("\r\n\r\n" + "x".repeat(81), 414);
        Client.failsAtEnd(HEAD + "A: b\r\n".repeat(12) + "x".repeat(81), 431);
        Client.failsAtEnd(CHUNKED + "1\r\nz\r\n" + "1".repeat(81), 400);
    }

    private static void eightyFirstCrOrLf() {
        Client.sentence("An 81st one that is CR or LF is no byte of the line.");
        for (int k = 0; k < BEFORE.length; k++) {
            Client.failsAtEnd(BEFORE[k] + FULL[k] + "\n", 400);
            Client.failsAtEnd(BEFORE[k] + FULL[k] + "\r\r", 400);
            Client.failsAtEnd(BEFORE[k] + FULL[k] + "\rx", 400);
        }
    }

    private static void otherErrorsAtLf() {
        Client.sentence("All other errors of a line are found at its LF.");
        String[] wrong = {"\u0001", " ", "BAD\u007f"};
        for (int k = 0; k < BEFORE.length; k++) {
            for (String line : wrong) {
                Client.failsAtEnd(BEFORE[k] + line + "\r\n", 400);
                Client.failsAtEnd(BEFORE[k] + line.repeat(80 / line.length()) + "\r\n", 400);
            }
        }
        Client.failsAtEnd("GET /a HTTP/2.0\r\n", 505);
        Client.failsAtEnd("GOT /a HTTP/1.1\r\n", 501);
        Client.failsAtEnd(CHUNKED + "fff\r\n", 413);
        Client.failsAtEnd(HEAD + "A: b\r\n".repeat(13), 431);
    }

    private static void errorsClose() {
        Client.sentence("An ERROR is answered by a response with its number, and the connection is closed.");
        String[] wires = {"\n", "x".repeat(81), HEAD + "x".repeat(81), "GET /a HTTP/3.1\r\n", "GOT /a HTTP/1.1\r\n",
            CHUNKED + "c9\r\n", HEAD + "Host: x\r\nExpect: tea\r\n\r\n"};
        int[] numbers = {400, 414, 431, 505, 501, 413, 417};
        for (int k = 0; k < wires.length; k++) {
            Client c = Client.withA("hello");
            Client.due("its responses", c.send(wires[k]), 1);
            Client.due("what was sent", c.output(), Client.error(numbers[k]));
            String closed = c.state();
            Client.due("requests behind it", c.send(Client.put("/a", "x") + "\n"), 0);
            Client.due("all that can be asked", c.state(), closed);
        }
    }

    private static void firstErrorCounts() {
        Client.sentence("Of several errors of one line the first one as told below counts.");
        Client.failsAtEnd("GOT x# HTTP/2.0\r\n", 400);
        Client.failsAtEnd("GOT x HTTP/2.0\r\n", 505);
        Client.failsAtEnd("GET x HTTP/2.0\r\n", 505);
        Client.failsAtEnd("GOT x HTTP/1.1\r\n", 501);
        Client.failsAtEnd("GET x HTTP/1.1\r\n", 400);
        Client.failsAtEnd("GOTGOTGO x HTTP/2.0\r\n", 400);
        Client.failsAtEnd(HEAD + "A: b\r\n".repeat(12) + "A\r\n", 400);
        Client.failsAtEnd(CHUNKED + "fff;\u0001\r\n", 400);
        Client.failsAtEnd(CHUNKED + "0\r\n" + "A: b\r\n".repeat(4) + "A\r\n", 400);
    }

    private static void tokenBytes() {
        Client.sentence("TOKENS are one or more of the letters, the digits and !#$%&'*+-.^_`|~.");
        for (int b = 0; b < 256; b++) {
            if (endsLine(b)) {
                continue;
            }
            char c = (char) b;
            boolean fits = TOKEN_BYTES.indexOf(c) >= 0;
            String[] names = {"" + c, c + "a", "a" + c, "a" + c + "a"};
            for (String name : names) {
                Client.failsAtEnd(name + " /a HTTP/1.1\r\n", fits ? 501 : 400);
                // A name is over at its first colon.
                if (fits || c == ':' && name.charAt(0) != ':') {
                    Client.readsOn(HEAD + name + ": x\r\n", 1);
                } else {
                    Client.failsAtEnd(HEAD + name + ": x\r\n", 400);
                }
            }
        }
    }

    private static void tokensAreNotEmpty() {
        Client.sentence("TOKENS are one or more bytes: there is none without a byte.");
        Client.failsAtEnd(HEAD + ":\r\n", 400);
        Client.failsAtEnd(HEAD + ": x\r\n", 400);
        Client.failsAtEnd(HEAD + ":A: x\r\n", 400);
        Client.failsAtEnd(" /a HTTP/1.1\r\n", 400);
        Client.readsOn(HEAD + "A:\r\n", 1);
        Client.failsAtEnd("A /a HTTP/1.1\r\n", 501);
    }

    private static void upperAndLowerCase() {
        Client.sentence("Names and the words told in quotes are the same in upper and lower case.");
        String[] heads = {"GET /a HTTP/1.0\r\nConnection: keep-alive\r\n\r\n",
            "GET /a HTTP/1.1\r\nHost: x\r\nConnection: close\r\n\r\n",
            "GET /a HTTP/1.1\r\nHost: x\r\nRange: bytes=1-2\r\n\r\n",
            "GET /a HTTP/1.1\r\nHost: x\r\nIf-None-Match: *\r\n\r\n",
            "PUT /a HTTP/1.1\r\nHost: x\r\nExpect: 100-continue\r\nContent-Length: 1\r\n\r\nz",
            "PUT /a HTTP/1.1\r\nHost: x\r\nTransfer-Encoding: chunked\r\n\r\n0\r\n\r\n"};
        for (String head : heads) {
            String due = Client.withA("hello").exchange(head);
            int fields = head.indexOf('\n') + 1;
            String line = head.substring(0, fields);
            String rest = head.substring(fields);
            Client.due("in upper case", Client.withA("hello").exchange(line + rest.toUpperCase()), due);
            Client.due("in lower case", Client.withA("hello").exchange(line + rest.toLowerCase()), due);
        }
        Client.due("keep-alive", Client.withA("hello").exchange(heads[0]).contains("keep-alive"), true);
        Client.due("close", Client.withA("hello").exchange(heads[1]).contains("close"), true);
        Client.due("bytes=", Client.withA("hello").exchange(heads[2]).contains(" 206 "), true);
        Client.due("100-continue", Client.withA("hello").exchange(heads[4]).contains(" 100 "), true);
        Client.failsAtEnd(CHUNKED.toUpperCase().replace("/A", "/a") + "G\r\n", 400);
        // Letters alone have two cases: these bytes differ from the right ones as upper case does from lower.
        Client.failsAtEnd("PUT /a HTTP/1.1\r\nHost: x\r\nTransfer-Encoding: \u00e3hunked\r\n\r\n", 400);
        Client.answers(Client.get("/a", "Connection: c\u00ecose"), 404);
    }

    private static void methodsAndHttpKeepTheirCase() {
        Client.sentence("But for methods and HTTP.");
        String[] methods = {"get", "Get", "gET", "head", "Head", "put", "Put", "post", "Post", "delete", "Delete", "options",
            "Options", "trace", "Trace"};
        for (String method : methods) {
            Client.failsAtEnd(method + " /a HTTP/1.1\r\n", 501);
        }
        String[] versions = {"http/1.1", "Http/1.1", "hTTP/1.1", "HTTp/1.1"};
        for (String version : versions) {
            Client.failsAtEnd("GET /a " + version + "\r\n", 400);
        }
    }

    private static void blanks() {
        Client.sentence("BLANKS are 32 and 9.");
        for (int b = 0; b < 256; b++) {
            String host = "Host:" + (char) b + "x" + (char) b + "\r\n\r\n";
            boolean control = b < 32 && b != 9 || b == 127;
            if (b == 32 || b == 9 || (LETTERS_DIGITS + "-.:").indexOf(b) >= 0) {
                Client.answers(HEAD + host, 404);
            } else if (!control) {
                Client.failsAtEnd(HEAD + host, 400);
            }
            String length = "Host: x\r\nContent-Length: ," + (char) b + "1" + (char) b + ",\r\n\r\n";
            if (b == 32 || b == 9 || b == ',') {
                Client.readsOn(HEAD + length, 2);
            } else if (!control && (b < '0' || b > '9')) {
                Client.failsAtEnd(HEAD + length, 400);
            }
        }
    }

    private static void emptyLinesAreSkipped() {
        Client.sentence("A REQUEST begins with empty lines, which are skipped.");
        Client.answers(Client.get("/a"), 404);
        Client.answers("\r\n" + Client.get("/a"), 404);
        Client.answers("\r\n".repeat(1000) + Client.get("/a"), 404);
        Client.readsOn("\r\n".repeat(1000), 0);
        Client.due("between requests", new Client().send(Client.put("/a", "") + "\r\n\r\n\r\n" + Client.get("/a")), 2);
        Client.failsAtEnd("\r\n \r\n", 400);
        Client.failsAtEnd("\r\n\t\r\n", 400);
    }

    private static void justTwoSpaces() {
        Client.sentence("400: there are not just two of 32 in it.");
        String[] wrong = {"GET/aHTTP/1.1", "GET /aHTTP/1.1", "GET/a HTTP/1.1", " GET /a HTTP/1.1", "GET /a HTTP/1.1 ",
            "GET  /a HTTP/1.1", "GET /a  HTTP/1.1", "GET /a b HTTP/1.1", "GET /a HTTP/ 1.1", "G ET /a HTTP/1.1", "  ", "   ", " ",
            "GET /a HTTP/1.1 HTTP/1.1", "GET\t/a HTTP/1.1", "GET /a\tHTTP/1.1"};
        for (String line : wrong) {
            Client.failsAtEnd(line + "\r\n", 400);
        }
        // Were the number of 32 not looked at first, these could pass for the errors that are told later.
        Client.failsAtEnd("GOT /a HTTP/1.1 \r\n", 400);
        Client.failsAtEnd("GET /a HTTP/2.0 \r\n", 400);
        Client.readsOn("GET /a HTTP/1.1\r\n", 1);
    }

    private static void methodOfSevenBytes() {
        Client.sentence("400: the method is no token of at most 7 bytes.");
        for (int n = 1; n <= 7; n++) {
            Client.failsAtEnd("X".repeat(n) + " /a HTTP/1.1\r\n", 501);
        }
        for (int n = 8; n <= 67; n++) {
            Client.failsAtEnd("X".repeat(n) + " /a HTTP/1.1\r\n", 400);
        }
        Client.failsAtEnd("OPTIONSS /a HTTP/1.1\r\n", 400);
        Client.readsOn("OPTIONS /a HTTP/1.1\r\n", 1);
    }

    private static void versionForm() {
        Client.sentence("400: the version is not HTTP/ and a digit, a point and a digit.");
        String right = "HTTP/1.1";
        for (int i = 0; i < right.length(); i++) {
            for (int b = 0; b < 256; b++) {
                if (endsLine(b) || b == right.charAt(i)) {
                    continue;
                }
                String line = "GET /a " + right.substring(0, i) + (char) b + right.substring(i + 1) + "\r\n";
                boolean digit = b >= '0' && b <= '9';
                if (digit && i == 7) {
                    Client.readsOn(line, 1);
                } else {
                    Client.failsAtEnd(line, digit && i == 5 ? 505 : 400);
                }
            }
        }
        String[] wrong = {"", "HTTP/1.", "TTP/1.1", "HTTP/1.1x", "HTTP/1.10", "HTTP/11.1", "HTTP/.1", "HTTP/1", "HTTP/", "HHTTP/1.1",
            "HTTP/1..1", "HTTP//1.1"};
        for (String version : wrong) {
            Client.failsAtEnd("GET /a " + version + "\r\n", 400);
        }
    }

    private static void targetBytes() {
        Client.sentence("400: the target has a byte other than letters, digits, -._~!$&'()*+,;=:@/? and % with two digits to the base 16 behind.");
        for (int b = 0; b < 256; b++) {
            if (endsLine(b)) {
                continue;
            }
            String[] targets = {"/" + (char) b, "/x" + (char) b + "x", "/x?" + (char) b};
            for (String target : targets) {
                String line = "GET " + target + " HTTP/1.1\r\n";
                if (TARGET_BYTES.indexOf(b) >= 0) {
                    Client.readsOn(line, 1);
                } else {
                    Client.failsAtEnd(line, 400);
                }
            }
        }
    }

    private static void targetEscapes() {
        Client.sentence("% with two digits to the base 16 behind.");
        for (int b = 0; b < 256; b++) {
            if (endsLine(b)) {
                continue;
            }
            String[] targets = {"/%" + (char) b + "0", "/%0" + (char) b, "/x?%" + (char) b + "0", "/x?%0" + (char) b + "x"};
            for (String target : targets) {
                String line = "GET " + target + " HTTP/1.1\r\n";
                if ("0123456789abcdefABCDEF".indexOf(b) >= 0) {
                    Client.readsOn(line, 1);
                } else {
                    Client.failsAtEnd(line, 400);
                }
            }
        }
        String[] cutOff = {"/%", "/%6", "/x?%", "/x?%6", "/%61%", "/%61%6", "/%?61", "/%6?1"};
        for (String target : cutOff) {
            Client.failsAtEnd("GET " + target + " HTTP/1.1\r\n", 400);
        }
    }

    private static void targetIsNotEmpty() {
        Client.sentence("400: the target is empty.");
        Client.failsAtEnd("GET  HTTP/1.1\r\n", 400);
        Client.failsAtEnd("OPTIONS  HTTP/1.1\r\n", 400);
        Client.failsAtEnd("GOT  HTTP/1.1\r\n", 400);
        Client.failsAtEnd("GET  HTTP/2.0\r\n", 400);
        Client.readsOn("GET / HTTP/1.1\r\n", 1);
    }

    private static void firstDigitOne() {
        Client.sentence("505: the first digit of the version is not 1.");
        for (int first = 0; first <= 9; first++) {
            for (int last = 0; last <= 9; last++) {
                String line = "GET / HTTP/" + first + "." + last + "\r\n";
                if (first == 1) {
                    Client.answers(line + "Host: x\r\nConnection: keep-alive\r\n\r\n", 200);
                } else {
                    Client.failsAtEnd(line, 505);
                }
            }
        }
    }

    private static void knownMethods() {
        Client.sentence("501: the method is none of GET HEAD PUT POST DELETE OPTIONS TRACE.");
        String[] methods = {"GET", "HEAD", "PUT", "POST", "DELETE", "OPTIONS", "TRACE"};
        int[] numbers = {404, 404, 201, 404, 404, 204, 405};
        for (int k = 0; k < methods.length; k++) {
            Client.answers(Client.ask(methods[k], "/a"), numbers[k]);
            String less = methods[k].substring(1);
            String cut = methods[k].substring(0, methods[k].length() - 1);
            Client.failsAtEnd(less + " /a HTTP/1.1\r\n", 501);
            Client.failsAtEnd(cut + " /a HTTP/1.1\r\n", 501);
            Client.failsAtEnd(cut + "X /a HTTP/1.1\r\n", 501);
            Client.failsAtEnd("X" + less + " /a HTTP/1.1\r\n", 501);
            if (methods[k].length() < 7) {
                Client.failsAtEnd(methods[k] + methods[k].charAt(0) + " /a HTTP/1.1\r\n", 501);
            }
        }
        Client.failsAtEnd("CONNECT /a HTTP/1.1\r\n", 501);
        Client.failsAtEnd("PATCH /a HTTP/1.1\r\n", 501);
    }

    private static void targetBegins() {
        Client.sentence("400: the target does not begin with /, but for * with OPTIONS.");
        String[] methods = {"GET", "HEAD", "PUT", "POST", "DELETE", "OPTIONS", "TRACE"};
        String[] targets = {"a", "*", "?", "%2F", "%2Fa", ":/a", "http://x/a", "x:80", "**", "*/", "*?", "%2A"};
        for (String method : methods) {
            for (String target : targets) {
                if (method.equals("OPTIONS") && target.equals("*")) {
                    Client.answers(Client.ask(method, target), 204);
                } else {
                    Client.failsAtEnd(method + " " + target + " HTTP/1.1\r\n", 400);
                }
            }
            Client.readsOn(method + " / HTTP/1.1\r\n", 1);
            Client.readsOn(method + " // HTTP/1.1\r\n", 1);
            Client.readsOn(method + " /* HTTP/1.1\r\n", 1);
        }
    }

    private static void fieldForm() {
        Client.sentence("A NAME (a token), a colon, a VALUE; otherwise 400.");
        String[] wrong = {"A", "A b", " A: b", "\tA: b", "A : b", "A\t: b", "A b: c", " ", "\t", "  :", "A;b"};
        String[] right = {"A:", "A::", "A:b", "A: b", "A:b:", "A: b: c", "A:\t", "A: \t \t"};
        String[] before = {HEAD, HEAD + "Host: x\r\n", CHUNKED + "0\r\n"};
        int[] stages = {1, 1, 5};
        for (int k = 0; k < before.length; k++) {
            for (String line : wrong) {
                Client.failsAtEnd(before[k] + line + "\r\n", 400);
            }
            for (String line : right) {
                Client.readsOn(before[k] + line + "\r\n", stages[k]);
            }
        }
    }

    private static void valueBytes() {
        Client.sentence("Bytes below 32 but 9, and 127, are not in it; otherwise 400.");
        for (int b = 0; b < 256; b++) {
            if (endsLine(b)) {
                continue;
            }
            boolean fits = b >= 32 && b != 127 || b == 9;
            String[] lines = {"A:" + (char) b, "A: " + (char) b + "x", "A: x" + (char) b, "A: x" + (char) b + "x"};
            for (String line : lines) {
                if (fits) {
                    Client.readsOn(HEAD + line + "\r\n", 1);
                    Client.readsOn(CHUNKED + "0\r\n" + line + "\r\n", 5);
                } else {
                    Client.failsAtEnd(HEAD + line + "\r\n", 400);
                    Client.failsAtEnd(CHUNKED + "0\r\n" + line + "\r\n", 400);
                }
            }
        }
    }

    private static void twelveFields() {
        Client.sentence("A 13th field: 431.");
        for (int n = 0; n <= 11; n++) {
            Client.answers(HEAD + "A: b\r\n".repeat(n) + "Host: x\r\n\r\n", 404);
        }
        Client.readsOn(HEAD + "A: b\r\n".repeat(12), 1);
        Client.failsAtEnd(HEAD + "A: b\r\n".repeat(13), 431);
        Client.failsAtEnd(HEAD + "Host: x\r\n" + "A: b\r\n".repeat(12), 431);
        Client.failsAtEnd(HEAD + "A: b\r\n".repeat(12) + "Host: x\r\n", 431);
        Client.failsAtEnd(HEAD + "A: b\r\n".repeat(12) + "\r\n", 400);
        String full = HEAD + "A: b\r\n".repeat(11) + "Host: x\r\n\r\n";
        Client c = new Client();
        Client.due("the number begins anew with each request", c.exchange(full + full + full), Client.empty(404).repeat(3));
        c.send(HEAD + "A: b\r\n".repeat(12));
        c.asked().connect();
        Client.due("and with each connection", c.exchange(full), Client.empty(404));
        String large = (FULL[1] + "\r\n").repeat(11) + "Host: x\r\n\r\n";
        Client twice = Client.withA("hello");
        Client.due("twelve full fields", twice.exchange(HEAD + large + HEAD + large), Client.whole("hello", 1).repeat(2));
        Client none = Client.withA("hello");
        Client.due("twelve fields without a host", none.exchange("GET /a HTTP/1.0\r\n" + "A: b\r\n".repeat(12) + "\r\n"),
                Client.response(200, "hello", "Content-Length: 5", "ETag: \"1\"", "Connection: close"));
    }

    private static void fieldsOfOneRequest() {
        Client.sentence("FIELDS follow, a line each: those of one request are not those of the next one.");
        String[] fields = {"Range: bytes=1-1", "If-None-Match: *", "Expect: 100-continue", "Connection: keep-alive", "Content-Length: 0"};
        for (String field : fields) {
            Client c = Client.withA("hello");
            c.send(Client.get("/a", field));
            Client.due("behind " + field, c.exchange(Client.get("/a")), Client.whole("hello", 1));
        }
        Client c = Client.withA("hello");
        c.send(Client.get("/a"));
        Client.failsAtEnd(c, HEAD + "\r\n", 400);
    }

    private static void emptyLineEndsHead() {
        Client.sentence("An empty line ends the HEAD.");
        Client c = new Client();
        Client.due("before its LF", c.send(HEAD + "Host: x\r\n\r"), 0);
        Client.due("before its LF: reading", c.asked().reading(), 1);
        Client.due("at its LF", c.send("\n"), 1);
        Client.due("then: reading", c.asked().reading(), 0);
        Client.failsAtEnd(HEAD + "Host: x\r\n \r\n", 400);
        Client.due("a head without fields", new Client().exchange("GET / HTTP/1.0\r\n\r\n"),
                Client.response(200, "", "Content-Length: 0", "Connection: close"));
    }
}
