/** THE RESPONSE: what each method answers, and how it is written. */
public final class ResponseTest {
    private static final String ALLOW = "Allow: GET, HEAD, PUT, POST, DELETE, OPTIONS";

    public static void main(String[] args) {
        optionsAndTrace();
        lists();
        paths();
        reads();
        noneMatch();
        ranges();
        rangesThatDoNotCount();
        puts();
        posts();
        deletes();
        errorsLeaveTheSite();
        inOrder();
        Client.finish();
    }

    private static void optionsAndTrace() {
        String[] targets = {"*", "/", "/a", "/zz", "/a?b"};
        for (String target : targets) {
            Client.due("OPTIONS " + target, new Client().exchange(Client.ask("OPTIONS", target)), Client.response(204, "", ALLOW));
        }
        String[] paths = {"/", "/a", "/zz"};
        for (String target : paths) {
            Client.due("TRACE " + target, new Client().exchange(Client.ask("TRACE", target)),
                    Client.response(405, "", "Content-Length: 0", ALLOW));
        }
        Client.due("OPTIONS that is the last", new Client().exchange(Client.ask("OPTIONS", "*", "Connection: close")),
                Client.response(204, "", ALLOW, "Connection: close"));
        Client.due("TRACE of HTTP/1.0", new Client().exchange("TRACE / HTTP/1.0\r\nConnection: keep-alive\r\n\r\n"),
                Client.response(405, "", "Content-Length: 0", ALLOW, "Connection: keep-alive"));
        Client c = new Client();
        c.send(Client.ask("OPTIONS", "*"));
        Client.due("Allow is of OPTIONS alone", c.exchange(Client.get("/a")), Client.empty(404));
        Client.failsAtEnd("OPTIONS * HTTP/1.1\r\nHost: x\r\nExpect: tea\r\n\r\n", 417);
    }

    private static void lists() {
        Client c = new Client();
        Client.due("an empty site", c.exchange(Client.get("/")), Client.empty(200));
        c.send(Client.put("/h", "1") + Client.put("/a", "2") + Client.put("/c", ""));
        String list = Client.response(200, "ach", "Content-Length: 3");
        Client.due("a list", c.exchange(Client.get("/")), list);
        Client.due("a list with a query", c.exchange(Client.get("/?/a")), list);
        Client.due("HEAD of a list", c.exchange(Client.ask("HEAD", "/")), Client.response(200, "", "Content-Length: 3"));
        Client.due("a list has no mark", c.exchange(Client.get("/", "If-None-Match: *")), list);
        Client.due("a list has no ranges", c.exchange(Client.get("/", "Range: bytes=0-0")), list);
        c.send(Client.ask("DELETE", "/a"));
        Client.due("a list behind a DELETE", c.exchange(Client.get("/")), Client.response(200, "ch", "Content-Length: 2"));
        Client.due("PUT /", c.exchange(Client.put("/", "x")), Client.empty(404));
        Client.due("POST /", c.exchange(Client.post("/", "x")), Client.empty(404));
        Client.due("DELETE /", c.exchange(Client.ask("DELETE", "/")), Client.empty(404));
        Client all = new Client();
        for (char r = 'a'; r <= 'h'; r++) {
            all.send(Client.put("/" + r, ""));
        }
        Client.due("a full list", all.exchange(Client.get("/")), Client.response(200, "abcdefgh", "Content-Length: 8"));
    }

    private static void paths() {
        Client c = Client.withA("hello");
        String[] right = {"/a", "/%61", "/a?", "/a?x=1", "/a??", "/%61?%61", "/a?/b"};
        for (String target : right) {
            Client.due("GET " + target, c.exchange(Client.get(target)), Client.whole("hello", 1));
        }
        String[] wrong = {"/A", "/%41", "/aa", "/a/", "//a", "/%2fa", "/a%3F", "/a%3f", "/%3Fa", "/i", "/%60", "/%69", "/b",
            "/a%00", "/%00", "/%E1", "/%25", "/%2561", "/%61b", "/%61%62"};
        for (String target : wrong) {
            Client.due("GET " + target, c.exchange(Client.get(target)), Client.empty(404));
        }
        Client.due("PUT /i", c.exchange(Client.put("/i", "x")), Client.empty(404));
        Client.due("PUT /h", c.exchange(Client.put("/%68", "x")), Client.empty(201));
        Client.due("size", c.asked().size(7), 1);
    }

    private static void reads() {
        Client c = Client.withA("hello");
        Client.due("GET", c.exchange(Client.get("/a")), Client.whole("hello", 1));
        Client.due("HEAD", c.exchange(Client.ask("HEAD", "/a")), Client.response(200, "", "Content-Length: 5", "ETag: \"1\""));
        Client.due("GET of what is not there", c.exchange(Client.get("/b", "If-None-Match: *", "Range: bytes=0-")), Client.empty(404));
        Client.due("HEAD of what is not there", c.exchange(Client.ask("HEAD", "/b")), Client.empty(404));
        for (int k = 2; k <= 12; k++) {
            c.send(Client.put("/b", "" + k));
        }
        Client.due("a mark of two digits", c.exchange(Client.get("/b")), Client.whole("12", 12));
        Client.due("a length of three digits", Client.withA("z".repeat(200)).exchange(Client.get("/a")), Client.whole("z".repeat(200), 1));
        int[] lengths = {1, 9, 10, 11, 19, 90, 99, 100, 101, 109, 190, 199};
        for (int length : lengths) {
            String content = "y".repeat(length);
            Client.due("a length of " + length, Client.withA(content).exchange(Client.get("/a")), Client.whole(content, 1));
        }
        Client.due("an empty resource", Client.withA("").exchange(Client.get("/a")), Client.whole("", 1));
        Client.due("HTTP/1.0", c.exchange("GET /a HTTP/1.0\r\nConnection: keep-alive\r\n\r\n"),
                Client.response(200, "hello", "Content-Length: 5", "ETag: \"1\"", "Connection: keep-alive"));
    }

    private static void noneMatch() {
        Client c = Client.withA("hello");
        String known = Client.response(304, "", "ETag: \"1\"");
        String[] right = {"*", "\"1\"", "\"7\" , \"1\"", ", *", "\"7\",\t\"1\",", "x, *"};
        for (String value : right) {
            Client.due("GET, none of " + value, c.exchange(Client.get("/a", "if-NONE-match: " + value)), known);
            Client.due("HEAD, none of " + value, c.exchange(Client.ask("HEAD", "/a", "If-None-Match: " + value)), known);
        }
        Client.due("several fields", c.exchange(Client.get("/a", "If-None-Match: x", "If-None-Match: \"1\"")), known);
        Client.due("a range does not matter then", c.exchange(Client.get("/a", "Range: bytes=9-", "If-None-Match: *")), known);
        Client.due("304 that is the last", Client.withA("").exchange(Client.get("/a", "If-None-Match: *", "Connection: close")),
                Client.response(304, "", "ETag: \"1\"", "Connection: close"));
        String[] wrong = {"", "1", "\"2\"", "\"01\"", "\"11\"", "W/\"1\"", "\"1", "1\"", "\"", "\"\"", "**", "\"*\"", "\"1\"x", "\" 1\"",
            "\"0000000001\"", "'1'", "\"1\" \"1\""};
        for (String value : wrong) {
            Client.due("GET, none of " + value, c.exchange(Client.get("/a", "If-None-Match: " + value)), Client.whole("hello", 1));
        }
        Client ten = new Client();
        for (int k = 0; k < 10; k++) {
            ten.send(Client.put("/a", "x"));
        }
        Client.due("a mark of two digits", ten.exchange(Client.get("/a", "If-None-Match: \"10\"")), Client.response(304, "", "ETag: \"10\""));
        Client.due("its first digit alone", ten.exchange(Client.get("/a", "If-None-Match: \"1\"")), Client.whole("x", 10));
    }

    private static void part(Client c, String range, String body, String told) {
        Client.due("range " + range, c.exchange(Client.get("/a", "RANGE: " + range)), Client.response(206, body,
                "Content-Length: " + body.length(), "ETag: \"1\"", "Content-Range: bytes " + told));
    }

    private static void ranges() {
        Client c = Client.withA("hello");
        part(c, "bytes=1-2", "el", "1-2/5");
        part(c, "BYTES=0-0", "h", "0-0/5");
        part(c, " Bytes=4-4 ", "o", "4-4/5");
        part(c, "bytes=0-4", "hello", "0-4/5");
        part(c, "bytes=3-5", "lo", "3-4/5");
        part(c, "bytes=3-999999999", "lo", "3-4/5");
        part(c, "bytes=000000001-000000002", "el", "1-2/5");
        part(c, "bytes=0-", "hello", "0-4/5");
        part(c, "bytes=4-", "o", "4-4/5");
        part(c, "bytes=-1", "o", "4-4/5");
        part(c, "bytes=-5", "hello", "0-4/5");
        part(c, "bytes=-6", "hello", "0-4/5");
        part(c, "bytes=-999999999", "hello", "0-4/5");
        part(c, "bytes=-2", "lo", "3-4/5");
        Client.due("all of it behind a range", c.exchange(Client.get("/a")), Client.whole("hello", 1));
        String[] beyond = {"5-", "5-5", "5-9", "999999999-", "999999999-999999999"};
        for (String range : beyond) {
            Client.due("range " + range, c.exchange(Client.get("/a", "Range: bytes=" + range)),
                    Client.response(416, "", "Content-Length: 0", "Content-Range: bytes */5"));
        }
        Client none = Client.withA("");
        String[] ofNothing = {"0-", "0-0", "-1"};
        for (String range : ofNothing) {
            Client.due("range " + range + " of nothing", none.exchange(Client.get("/a", "Range: bytes=" + range)),
                    Client.response(416, "", "Content-Length: 0", "Content-Range: bytes */0"));
        }
        Client.due("a range that is the last response", c.exchange(Client.get("/a", "Range: bytes=1-1", "Connection: close")),
                Client.response(206, "e", "Content-Length: 1", "ETag: \"1\"", "Content-Range: bytes 1-1/5", "Connection: close"));
    }

    private static void rangesThatDoNotCount() {
        String[] wrong = {"", "bytes", "bytes=", "bytes=-", "bytes=1", "bytes=2-1", "bytes=-0", "bytes=-000000000", "bytes=a-b",
            "bytes=1-b", "bytes=a-1", "bytes=1-2-", "bytes=--1", "bytes=1--2", "bytes= 1-2", "bytes=1 -2", "bytes=1- 2", "bytes =1-2",
            "bytes=0-0,1-1", "bytes=0-0,", "0-0", "items=0-0", "bytes=0000000001-", "bytes=0-0000000001", "bytes=-0000000001",
            "bytes=+1-2", "byte", "bytes:0-0"};
        Client c = Client.withA("hello");
        for (String range : wrong) {
            Client.due("range " + range, c.exchange(Client.get("/a", "Range: " + range)), Client.whole("hello", 1));
        }
        Client.due("two ranges", c.exchange(Client.get("/a", "Range: bytes=0-0", "range: bytes=0-0")), Client.whole("hello", 1));
        Client.due("HEAD leaves ranges out", c.exchange(Client.ask("HEAD", "/a", "Range: bytes=0-0")),
                Client.response(200, "", "Content-Length: 5", "ETag: \"1\""));
        Client.due("HEAD leaves wrong ranges out", c.exchange(Client.ask("HEAD", "/a", "Range: bytes=9-")),
                Client.response(200, "", "Content-Length: 5", "ETag: \"1\""));
    }

    private static void puts() {
        Client c = new Client();
        String only = "If-None-Match: \"9\", *";
        Client.due("PUT of a new one", c.exchange(Client.ask("PUT", "/a", only)), Client.empty(201));
        Client.due("PUT again", c.exchange(Client.put("/a", "hello")), Client.response(204, ""));
        Client.due("its bytes", c.exchange(Client.get("/a")), Client.whole("hello", 2));
        Client.due("PUT that must not be there", c.exchange(Client.ask("PUT", "/a", only)), Client.empty(412));
        Client.due("its bytes stay", c.exchange(Client.get("/a")), Client.whole("hello", 2));
        Client.due("PUT with its mark", c.exchange(Client.ask("PUT", "/a", "If-None-Match: \"2\"")), Client.response(204, ""));
        Client.due("it is empty then", c.exchange(Client.get("/a")), Client.whole("", 3));
        c.send(Client.put("/b", "x"));
        Client.due("the others stay", c.exchange(Client.get("/a")), Client.whole("", 3));
        c.send(Client.ask("DELETE", "/a"));
        Client.due("PUT behind a DELETE", c.exchange(Client.put("/a", "z")), Client.empty(201));
        Client.due("its mark", c.exchange(Client.get("/a")), Client.whole("z", 6));
    }

    private static void posts() {
        Client c = new Client();
        Client.due("POST to what is not there", c.exchange(Client.post("/a", "x")), Client.empty(404));
        Client.due("it is not there then", c.asked().size(0), -1);
        c.send(Client.put("/a", "hello"));
        Client.due("POST", c.exchange(Client.post("/a", ", you")), Client.response(204, ""));
        Client.due("its bytes", c.exchange(Client.get("/a")), Client.whole("hello, you", 2));
        Client.due("POST of nothing, with a condition", c.exchange(Client.ask("POST", "/a", "If-None-Match: *")), Client.response(204, ""));
        Client.due("its mark", c.exchange(Client.get("/a")), Client.whole("hello, you", 3));
        Client.due("POST beyond 200", c.exchange(Client.post("/a", "z".repeat(191))), Client.empty(413));
        Client.due("the connection stays open", c.asked().isOpen(), true);
        Client.due("its bytes stay", c.exchange(Client.get("/a")), Client.whole("hello, you", 3));
        Client.due("POST up to 200", c.exchange(Client.post("/a", "z".repeat(190))), Client.response(204, ""));
        Client.due("its bytes", c.exchange(Client.get("/a")), Client.whole("hello, you" + "z".repeat(190), 4));
    }

    private static void deletes() {
        Client c = Client.withA("hello");
        Client.due("DELETE of what is not there", c.exchange(Client.ask("DELETE", "/b")), Client.empty(404));
        Client.due("DELETE", c.exchange(Client.ask("DELETE", "/a", "If-None-Match: *")), Client.response(204, ""));
        Client.due("it is gone", c.exchange(Client.get("/a")), Client.empty(404));
        Client.due("DELETE again", c.exchange(Client.ask("DELETE", "/a")), Client.empty(404));
        Client.due("the last DELETE", c.exchange(Client.ask("DELETE", "/a", "Connection: close")),
                Client.response(404, "", "Content-Length: 0", "Connection: close"));
    }

    private static void errorsLeaveTheSite() {
        Client c = Client.withA("hello");
        Client.failsAtEnd(c, "PUT /a HTTP/1.1\r\nHost: x\r\nTransfer-Encoding: chunked\r\n\r\n1\r\nxy", 400);
        Client.due("its bytes stay", c.asked().size(0), 5);
        Client.due("no change", c.asked().changes(), 1);
    }

    private static void inOrder() {
        Client c = new Client();
        String got = c.exchange(Client.put("/a", "1") + Client.get("/a") + Client.post("/a", "2") + Client.get("/a")
                + Client.ask("DELETE", "/a") + Client.get("/a") + "GET\r\n" + Client.get("/a"));
        Client.due("several requests", got, Client.empty(201) + Client.whole("1", 1) + Client.response(204, "") + Client.whole("12", 2)
                + Client.response(204, "") + Client.empty(404) + Client.error(400));
    }
}
