/** The boundary cases that the document names under THE SITE and THE RESPONSE. */
public final class EdgeResponseTest {
    private static final String ALLOW = "Allow: GET, HEAD, PUT, POST, DELETE, OPTIONS";
    private static final String[] METHODS = {"GET", "HEAD", "PUT", "POST", "DELETE", "OPTIONS", "TRACE"};

    public static void main(String[] args) {
        eightResources();
        nothingThereAtFirst();
        upTo200Bytes();
        marksFromOne();
        whenTheRequestHasEnded();
        upToAQuestionMark();
        escapesInTargets();
        optionsWithAnyTarget();
        traceIsNotAllowed();
        listOfLetters();
        otherTargets();
        readsOfNothing();
        noneMatchStar();
        noneMatchMark();
        justOneRange();
        rangeForms();
        rangeDigits();
        rangeFirstAboveLast();
        rangeOfLastNone();
        rangeBeyond();
        rangeOfNothing();
        rangeAsFarAsThere();
        rangesOfGetAlone();
        putWhenThere();
        putCreatesOrReplaces();
        postToNothing();
        postUpTo200();
        deleteOfNothing();
        contentLengthOrNone();
        etagOfAResource();
        allowOfSome();
        connectionField();
        bodyOfGetAlone();
        Client.finish();
    }

    private static void is(Client c, String wire, String due) {
        Client.due(wire, c.exchange(wire), due);
    }

    private static void eightResources() {
        Client.sentence("THE SITE has eight RESOURCES a .. h; / and a letter a .. h.");
        for (int b = 0; b < 256; b++) {
            boolean fits = b >= 'a' && b <= 'h';
            Client c = new Client();
            String target = String.format("/%%%02x", b);
            is(c, Client.put(target, "z"), Client.empty(fits ? 201 : 404));
            Client.due("PUT " + target + ": the site", c.site(), fits ? "changes 1, " + (char) b + " of mark 1: z" : "changes 0");
        }
        for (int r = 0; r < 8; r++) {
            Client c = new Client();
            c.send(Client.put("/" + (char) ('a' + r), "z"));
            for (int k = 0; k < 8; k++) {
                Client.due("size of " + k + " of a site with " + r, c.asked().size(k), k == r ? 1 : -1);
            }
        }
    }

    private static void nothingThereAtFirst() {
        Client.sentence("At first none of them there.");
        Client c = new Client();
        Client.due("a new site", c.site(), "changes 0");
        for (char letter = 'a'; letter <= 'h'; letter++) {
            is(c, Client.get("/" + letter), Client.empty(404));
        }
        is(c, Client.get("/"), Client.empty(200));
    }

    private static void upTo200Bytes() {
        Client.sentence("One that is there has 0 to 200 bytes.");
        int[] sizes = {0, 1, 199, 200};
        for (int size : sizes) {
            Client c = new Client();
            is(c, Client.put("/a", "z".repeat(size)), Client.empty(201));
            Client.due("its size", c.asked().size(0), size);
        }
        Client full = new Client();
        for (char letter = 'a'; letter <= 'h'; letter++) {
            full.send(Client.put("/" + letter, ("" + letter).repeat(200)));
        }
        for (int r = 0; r < 8; r++) {
            Client.due("size of " + r, full.asked().size(r), 200);
            Client.due("first byte of " + r, full.asked().at(r, 0), 'a' + r);
            Client.due("last byte of " + r, full.asked().at(r, 199), 'a' + r);
        }
        Client.due("all full: the next PUT", full.send(Client.put("/h", "")), 1);
        Client.due("all full: then", full.asked().size(7), 0);
        Client.due("all full: its neighbour", full.asked().size(6), 200);
        Client kept = Client.withA("hello");
        Client.failsAtEnd(kept, "PUT /a HTTP/1.1\r\nHost: x\r\nContent-Length: 201\r\n\r\n", 413);
        Client.due("201 bytes leave it as it was", kept.site(), "changes 1, a of mark 1: hello");
    }

    private static void marksFromOne() {
        Client.sentence("A MARK, the number (from 1) of the change of the site that made it as it is.");
        Client c = new Client();
        c.send(Client.put("/a", ""));
        Client.due("the first change", c.site(), "changes 1, a of mark 1: ");
        c.send(Client.put("/b", "x"));
        Client.due("the second change", c.site(), "changes 2, a of mark 1: , b of mark 2: x");
        c.send(Client.post("/a", ""));
        Client.due("a POST", c.site(), "changes 3, a of mark 3: , b of mark 2: x");
        c.send(Client.ask("DELETE", "/b"));
        Client.due("a DELETE counts too", c.site(), "changes 4, a of mark 3: ");
        c.send(Client.put("/b", "x"));
        Client.due("a PUT behind it", c.site(), "changes 5, a of mark 3: , b of mark 5: x");
        c.send(Client.put("/b", "x"));
        Client.due("a PUT of the same bytes", c.site(), "changes 6, a of mark 3: , b of mark 6: x");
        c.send(Client.get("/a") + Client.ask("HEAD", "/b") + Client.ask("OPTIONS", "/a") + Client.ask("TRACE", "/a"));
        Client.due("what does not change it", c.site(), "changes 6, a of mark 3: , b of mark 6: x");
    }

    private static void whenTheRequestHasEnded() {
        Client.sentence("THE RESPONSE is made when the request has ended.");
        String chunked = "\r\nHost: x\r\nTransfer-Encoding: chunked\r\n\r\n1\r\nz\r\n0\r\n\r\n";
        String[] wires = {Client.get("/a"), Client.put("/a", ""), Client.put("/a", "xy"), Client.post("/a", "xy"),
            Client.ask("DELETE", "/a"), Client.ask("OPTIONS", "*"), "PUT /a HTTP/1.1" + chunked, "GET /a HTTP/1.1" + chunked};
        for (String wire : wires) {
            Client c = Client.withA("hello");
            Client.due("before its end", c.send(wire.substring(0, wire.length() - 1)), 0);
            Client.due("the site before its end", c.site(), "changes 1, a of mark 1: hello");
            Client.due("at its end", c.send(wire.substring(wire.length() - 1)), 1);
        }
    }

    private static void upToAQuestionMark() {
        Client.sentence("The resource is told by the target up to a ?.");
        Client c = Client.withA("hello");
        String[] right = {"/a", "/a?", "/a?b", "/a??", "/a?/b?c", "/%61?%3F"};
        for (String target : right) {
            is(c, Client.get(target), Client.whole("hello", 1));
        }
        String[] wrong = {"/a%3F", "/a%3fb", "/%3Fa", "/a/?a", "/x?a", "/a&b"};
        for (String target : wrong) {
            is(c, Client.get(target), Client.empty(404));
        }
        String[] roots = {"/?", "/?a", "/??a"};
        for (String target : roots) {
            is(c, Client.get(target), Client.response(200, "a", "Content-Length: 1"));
        }
    }

    private static void escapesInTargets() {
        Client.sentence("Each % and two digits being the byte that they tell.");
        Client c = new Client();
        c.send(Client.put("/%61", "1") + Client.put("/%68", "2"));
        Client.due("%61 and %68", c.site(), "changes 2, a of mark 1: 1, h of mark 2: 2");
        String[] wrong = {"/%60", "/%69", "/%41", "/%48", "/%e1", "/%E1", "/%00", "/%FF", "/%ff", "/%2561", "/%2f", "/%2F",
            "/%2fa", "/a%00", "/a%20", "/%61%61", "/%61/", "/a%2F"};
        for (String target : wrong) {
            is(c, Client.get(target), Client.empty(404));
        }
        is(c, Client.get("/%2F"), Client.empty(404));
        Client hex = Client.withA("hello");
        is(hex, Client.put("/%6A", "x"), Client.empty(404));
        is(hex, Client.put("/%6a", "x"), Client.empty(404));
        is(hex, Client.put("/%66", "x"), Client.empty(201));
        Client.due("%66", hex.asked().size(5), 1);
    }

    private static void optionsWithAnyTarget() {
        Client.sentence("OPTIONS, with any target: 204.");
        String[] targets = {"*", "/", "/a", "/b", "/i", "/aa", "/?a", "/%00"};
        for (String target : targets) {
            Client c = Client.withA("hello");
            is(c, Client.ask("OPTIONS", target, "If-None-Match: *", "Range: bytes=9-"), Client.response(204, "", ALLOW));
            Client.due("the site", c.site(), "changes 1, a of mark 1: hello");
        }
    }

    private static void traceIsNotAllowed() {
        Client.sentence("TRACE: 405.");
        String[] targets = {"/", "/a", "/b", "/i", "/aa"};
        for (String target : targets) {
            Client c = Client.withA("hello");
            is(c, Client.ask("TRACE", target), Client.response(405, "", "Content-Length: 0", ALLOW));
            Client.due("the connection", c.asked().isOpen(), true);
            Client.due("the site", c.site(), "changes 1, a of mark 1: hello");
        }
    }

    private static void listOfLetters() {
        Client.sentence("With / alone GET and HEAD get the letters of the resources that are there, in order: 200.");
        Client c = new Client();
        is(c, Client.get("/"), Client.empty(200));
        is(c, Client.ask("HEAD", "/"), Client.empty(200));
        String letters = "";
        for (char letter = 'h'; letter >= 'a'; letter--) {
            c.send(Client.put("/" + letter, ""));
            letters = letter + letters;
            is(c, Client.get("/"), Client.response(200, letters, "Content-Length: " + letters.length()));
        }
        is(c, Client.ask("HEAD", "/"), Client.response(200, "", "Content-Length: 8"));
        c.send(Client.ask("DELETE", "/a") + Client.ask("DELETE", "/h") + Client.ask("DELETE", "/d"));
        is(c, Client.get("/"), Client.response(200, "bcefg", "Content-Length: 5"));
        Client one = Client.withA("hello");
        is(one, Client.get("/", "If-None-Match: *"), Client.response(200, "a", "Content-Length: 1"));
        is(one, Client.get("/", "If-None-Match: \"1\""), Client.response(200, "a", "Content-Length: 1"));
        is(one, Client.get("/", "Range: bytes=0-0"), Client.response(200, "a", "Content-Length: 1"));
        is(one, Client.get("/", "Range: bytes=9-"), Client.response(200, "a", "Content-Length: 1"));
    }

    private static void otherTargets() {
        Client.sentence("Other targets, and / with other methods: 404.");
        Client c = Client.withA("hello");
        String[] targets = {"/i", "/A", "/H", "/1", "/aa", "/ab", "/a/", "//", "//a", "/.", "/a.", "/%20"};
        for (String target : targets) {
            is(c, Client.get(target), Client.empty(404));
        }
        for (int k = 0; k < 5; k++) {
            is(c, Client.ask(METHODS[k], "/i"), Client.empty(404));
            is(c, Client.ask(METHODS[k], "/aa", "If-None-Match: *"), Client.empty(404));
        }
        is(c, Client.put("/", "x"), Client.empty(404));
        is(c, Client.post("/", "x"), Client.empty(404));
        is(c, Client.ask("DELETE", "/"), Client.empty(404));
        is(c, Client.put("/?a", "x"), Client.empty(404));
        Client.due("the site", c.site(), "changes 1, a of mark 1: hello");
        Client.due("the connection", c.asked().isOpen(), true);
    }

    private static void readsOfNothing() {
        Client.sentence("GET, HEAD: 404 when it is not there.");
        String[] fields = {"A: b", "If-None-Match: *", "If-None-Match: \"-1\"", "If-None-Match: \"0\"", "Range: bytes=0-", "Range: bytes=-1"};
        Client c = Client.withA("hello");
        for (String field : fields) {
            is(c, Client.get("/b", field), Client.empty(404));
            is(c, Client.ask("HEAD", "/b", field), Client.empty(404));
        }
        is(c, Client.get("/a"), Client.whole("hello", 1));
        c.send(Client.ask("DELETE", "/a"));
        is(c, Client.get("/a", "If-None-Match: \"1\""), Client.empty(404));
        is(Client.withA(""), Client.get("/a"), Client.whole("", 1));
    }

    private static void noneMatchStar() {
        Client.sentence("304 when IF-NONE-MATCH has an element *.");
        String[] right = {"*", " * ", "*,", ",*", "\"7\", *", "*, \"7\"", "x,\t*\t,y", "x\r\nIf-None-Match: *"};
        String[] wrong = {"", ",", "**", "* *", "\"*\"", "*x", "x*", "'*'", "W/*"};
        Client c = Client.withA("hello");
        for (String value : right) {
            is(c, Client.get("/a", "If-None-Match: " + value), Client.response(304, "", "ETag: \"1\""));
            is(c, Client.ask("HEAD", "/a", "If-None-Match: " + value), Client.response(304, "", "ETag: \"1\""));
        }
        for (String value : wrong) {
            is(c, Client.get("/a", "If-None-Match: " + value), Client.whole("hello", 1));
        }
    }

    private static void noneMatchMark() {
        Client.sentence("304 when IF-NONE-MATCH has an element that is the mark in quotes (34).");
        String put = "PUT /a HTTP/1.1\r\nHost:\r\n\r\n";
        int[] marks = {1, 9, 10, 11, 99, 100, 101};
        for (int mark : marks) {
            Client c = new Client();
            c.send(put.repeat(mark));
            Client.due("its mark", c.asked().mark(0), mark);
            is(c, Client.get("/a", "If-None-Match: \"" + mark + "\""), Client.response(304, "", "ETag: \"" + mark + "\""));
            is(c, Client.get("/a", "If-None-Match: x, \"" + mark + "\""), Client.response(304, "", "ETag: \"" + mark + "\""));
            String[] others = {"\"" + (mark - 1) + "\"", "\"" + (mark + 1) + "\"", "\"0" + mark + "\"", "\"" + mark + "0\"", "" + mark};
            for (String other : others) {
                is(c, Client.get("/a", "If-None-Match: " + other), Client.whole("", mark));
            }
        }
        Client c = Client.withA("hello");
        String[] wrong = {"\"1", "1\"", "\"\"", "\"", "\"\"\"", "'1'", "\" 1\"", "\"1 \"", "\"1\"\"", "\"\"1\"", "W/\"1\"", "w/\"1\"",
            "\"1\" \"1\"", "\"+1\"", "\"1.\"", "\"4294967297\"", "\"10000000001\"", "\"1;2\"", "\u00ab1\u00bb"};
        for (String value : wrong) {
            is(c, Client.get("/a", "If-None-Match: " + value), Client.whole("hello", 1));
        }
        Client changed = Client.withA("hello");
        changed.send(Client.post("/a", "!"));
        is(changed, Client.get("/a", "If-None-Match: \"1\""), Client.whole("hello!", 2));
    }

    private static String part(String body, int mark, String told) {
        return Client.response(206, body, "Content-Length: " + body.length(), "ETag: \"" + mark + "\"", "Content-Range: bytes " + told);
    }

    private static String beyond(int size) {
        return Client.response(416, "", "Content-Length: 0", "Content-Range: bytes */" + size);
    }

    private static String range(String value) {
        return Client.get("/a", "Range: " + value);
    }

    private static void justOneRange() {
        Client.sentence("For GET, if there is just one RANGE.");
        Client c = Client.withA("hello");
        is(c, Client.get("/a"), Client.whole("hello", 1));
        is(c, range("bytes=0-1"), part("he", 1, "0-1/5"));
        is(c, Client.get("/a", "Range: bytes=0-1", "Range: bytes=0-1"), Client.whole("hello", 1));
        is(c, Client.get("/a", "Range: bytes=0-1", "RANGE:"), Client.whole("hello", 1));
        is(c, Client.get("/a", "Range: x", "Range: bytes=0-1"), Client.whole("hello", 1));
        is(c, Client.get("/a", "Range: bytes=9-", "Range: bytes=9-"), Client.whole("hello", 1));
        is(c, range("bytes=0-1,"), Client.whole("hello", 1));
        is(c, range("bytes=0-1,2-3"), Client.whole("hello", 1));
        is(c, range("bytes=9-,9-"), Client.whole("hello", 1));
    }

    private static void rangeForms() {
        Client.sentence("Of the form \"bytes=\"a-b, a- or -n; otherwise 200 with all.");
        Client c = Client.withA("hello");
        is(c, range("bytes=1-3"), part("ell", 1, "1-3/5"));
        is(c, range("bytes=1-"), part("ello", 1, "1-4/5"));
        is(c, range("bytes=-1"), part("o", 1, "4-4/5"));
        is(c, range("\t bytes=-1 \t"), part("o", 1, "4-4/5"));
        String[] wrong = {"", "b", "bytes", "bytes=", "bytes=-", "bytes=1", "bytes=--", "bytes=1--", "bytes=--1", "bytes=1-2-", "bytes=-1-2",
            "bytes=1-3x", "xbytes=1-3", "bytes=x-3", "bytes=1-x", "bytes=x-", "bytes=-x", "bytes 1-3", "bytes:1-3", "byte=1-3", "bytes==1-3",
            "bytes= 1-3", "bytes =1-3", "bytes=1 -3", "bytes=1- 3", "bytes=1.-3", "bytes=+1-3", "bytes=- 1", "items=1-3", "1-3", "-1", "="};
        for (String value : wrong) {
            Client fresh = Client.withA("hello");
            is(fresh, range(value), Client.whole("hello", 1));
        }
        for (int b = 32; b < 256; b++) {
            if (b != 127) {
                Client fresh = Client.withA("hello");
                is(fresh, range("bytes=1" + (char) b + "3"), b == '-' ? part("ell", 1, "1-3/5") : Client.whole("hello", 1));
            }
        }
    }

    private static void rangeDigits() {
        Client.sentence("1 to 9 digits each.");
        Client c = Client.withA("hello");
        is(c, range("bytes=000000001-000000003"), part("ell", 1, "1-3/5"));
        is(c, range("bytes=000000004-"), part("o", 1, "4-4/5"));
        is(c, range("bytes=-000000002"), part("lo", 1, "3-4/5"));
        is(c, range("bytes=3-999999999"), part("lo", 1, "3-4/5"));
        is(c, range("bytes=-999999999"), part("hello", 1, "0-4/5"));
        is(c, range("bytes=999999999-"), beyond(5));
        is(c, range("bytes=999999999-999999999"), beyond(5));
        String[] tooLong = {"0000000001-3", "1-0000000003", "0000000004-", "-0000000002", "1-1000000000", "-1000000000", "1000000000-",
            "4294967297-4294967298", "1-4294967298", "-4294967298", "18446744073709551617-"};
        for (String value : tooLong) {
            is(Client.withA("hello"), range("bytes=" + value), Client.whole("hello", 1));
        }
    }

    private static void rangeFirstAboveLast() {
        Client.sentence("A not above b.");
        Client c = Client.withA("hello");
        is(c, range("bytes=2-3"), part("ll", 1, "2-3/5"));
        is(c, range("bytes=2-2"), part("l", 1, "2-2/5"));
        is(c, range("bytes=2-1"), Client.whole("hello", 1));
        is(c, range("bytes=1-0"), Client.whole("hello", 1));
        is(c, range("bytes=10-9"), Client.whole("hello", 1));
        is(c, range("bytes=999999999-0"), Client.whole("hello", 1));
        is(c, range("bytes=5-4"), Client.whole("hello", 1));
        is(Client.withA(""), range("bytes=1-0"), Client.whole("", 1));
    }

    private static void rangeOfLastNone() {
        Client.sentence("N not 0.");
        Client c = Client.withA("hello");
        is(c, range("bytes=-1"), part("o", 1, "4-4/5"));
        is(c, range("bytes=-0"), Client.whole("hello", 1));
        is(c, range("bytes=-000000000"), Client.whole("hello", 1));
        is(Client.withA(""), range("bytes=-0"), Client.whole("", 1));
    }

    private static void rangeBeyond() {
        Client.sentence("416 when a is not below the number of bytes.");
        int[] sizes = {1, 2, 5, 10, 199, 200};
        for (int size : sizes) {
            String content = "y".repeat(size - 1) + "z";
            int last = size - 1;
            Client c = Client.withA(content);
            is(c, range("bytes=" + last + "-"), part("z", 1, last + "-" + last + "/" + size));
            is(c, range("bytes=" + last + "-" + last), part("z", 1, last + "-" + last + "/" + size));
            is(c, range("bytes=" + size + "-"), beyond(size));
            is(c, range("bytes=" + size + "-" + size), beyond(size));
            is(c, range("bytes=" + (size + 1) + "-" + (size + 9)), beyond(size));
            Client.due("the site", c.asked().changes(), 1);
            Client.due("the connection", c.asked().isOpen(), true);
        }
    }

    private static void rangeOfNothing() {
        Client.sentence("416 when that is 0.");
        String[] values = {"0-", "0-0", "0-9", "1-", "-1", "-9", "-999999999"};
        Client c = Client.withA("");
        for (String value : values) {
            is(c, range("bytes=" + value), beyond(0));
        }
    }

    private static void rangeAsFarAsThere() {
        Client.sentence("Otherwise 206 with the bytes a to b, a to the last one, or the last n, as far as they are there.");
        Client c = Client.withA("hello");
        is(c, range("bytes=0-0"), part("h", 1, "0-0/5"));
        is(c, range("bytes=0-3"), part("hell", 1, "0-3/5"));
        is(c, range("bytes=0-4"), part("hello", 1, "0-4/5"));
        is(c, range("bytes=0-5"), part("hello", 1, "0-4/5"));
        is(c, range("bytes=4-5"), part("o", 1, "4-4/5"));
        is(c, range("bytes=0-"), part("hello", 1, "0-4/5"));
        is(c, range("bytes=-4"), part("ello", 1, "1-4/5"));
        is(c, range("bytes=-5"), part("hello", 1, "0-4/5"));
        is(c, range("bytes=-6"), part("hello", 1, "0-4/5"));
        String content = "0123456789".repeat(20);
        Client full = Client.withA(content);
        is(full, range("bytes=0-198"), part(content.substring(0, 199), 1, "0-198/200"));
        is(full, range("bytes=1-200"), part(content.substring(1), 1, "1-199/200"));
        is(full, range("bytes=-199"), part(content.substring(1), 1, "1-199/200"));
        is(full, range("bytes=-201"), part(content, 1, "0-199/200"));
        is(full, range("bytes=99-100"), part("90", 1, "99-100/200"));
    }

    private static void rangesOfGetAlone() {
        Client.sentence("For GET (a RANGE); for HEAD as many as GET would have, ranges left out.");
        Client c = Client.withA("hello");
        String head = Client.response(200, "", "Content-Length: 5", "ETag: \"1\"");
        String[] values = {"bytes=0-0", "bytes=5-", "bytes=-1", "x"};
        for (String value : values) {
            is(c, Client.ask("HEAD", "/a", "Range: " + value), head);
        }
        is(Client.withA(""), Client.ask("HEAD", "/a", "Range: bytes=0-"), Client.response(200, "", "Content-Length: 0", "ETag: \"1\""));
        is(c, Client.ask("PUT", "/a", "Range: bytes=9-"), Client.response(204, ""));
        is(c, Client.ask("DELETE", "/a", "Range: bytes=9-"), Client.response(204, ""));
    }

    private static void putWhenThere() {
        Client.sentence("PUT: 412 when it is there and IF-NONE-MATCH has an element *.");
        String put = "PUT /a HTTP/1.1\r\nHost: x\r\nContent-Length: 3\r\nIf-None-Match: ";
        String[] stars = {"*", "\"7\", *", "*, x", "x\r\nIf-None-Match: *"};
        for (String value : stars) {
            Client c = Client.withA("hello");
            is(c, put + value + "\r\n\r\nnew", Client.empty(412));
            Client.due("what it leaves", c.site(), "changes 1, a of mark 1: hello");
            Client.due("the connection", c.asked().isOpen(), true);
            Client none = new Client();
            is(none, put + value + "\r\n\r\nnew", Client.empty(201));
            Client.due("what it makes", none.site(), "changes 1, a of mark 1: new");
            Client hollow = Client.withA("");
            is(hollow, put + value + "\r\n\r\nnew", Client.empty(412));
            Client.due("what it leaves of an empty one", hollow.site(), "changes 1, a of mark 1: ");
        }
        String[] others = {"\"1\"", "", "**", "\"*\"", "x"};
        for (String value : others) {
            Client c = Client.withA("hello");
            is(c, put + value + "\r\n\r\nnew", Client.response(204, ""));
            Client.due("what it makes", c.site(), "changes 2, a of mark 2: new");
        }
        Client gone = Client.withA("hello");
        gone.send(Client.ask("DELETE", "/a"));
        is(gone, put + "*\r\n\r\nnew", Client.empty(201));
    }

    private static void putCreatesOrReplaces() {
        Client.sentence("Otherwise it has the body then: 201 when it was not there, else 204.");
        Client c = new Client();
        is(c, Client.put("/a", ""), Client.empty(201));
        is(c, Client.put("/a", ""), Client.response(204, ""));
        is(c, Client.put("/a", "z".repeat(200)), Client.response(204, ""));
        is(c, Client.put("/a", "y"), Client.response(204, ""));
        Client.due("a shorter one leaves nothing of a longer one", c.site(), "changes 4, a of mark 4: y");
        c.send(Client.ask("DELETE", "/a"));
        is(c, Client.put("/a", "x"), Client.empty(201));
        Client.due("then", c.site(), "changes 6, a of mark 6: x");
    }

    private static void postToNothing() {
        Client.sentence("POST: 404 when it is not there.");
        Client c = Client.withA("hello");
        is(c, Client.post("/b", "x"), Client.empty(404));
        is(c, Client.post("/b", ""), Client.empty(404));
        is(c, Client.post("/b", "z".repeat(200)), Client.empty(404));
        Client.due("what it leaves", c.site(), "changes 1, a of mark 1: hello");
        is(Client.withA(""), Client.post("/a", "x"), Client.response(204, ""));
    }

    private static void postUpTo200() {
        Client.sentence("POST: 413 when it would have more than 200 bytes; otherwise the body comes behind its bytes: 204.");
        int[] sizes = {0, 1, 100, 199, 200};
        for (int size : sizes) {
            Client c = Client.withA("y".repeat(size));
            if (size > 0) {
                is(c, Client.post("/a", "z".repeat(201 - size)), Client.empty(413));
                Client.due("one too many: its size", c.asked().size(0), size);
                Client.due("one too many: its mark", c.asked().mark(0), 1);
                Client.due("one too many: changes", c.asked().changes(), 1);
                Client.due("one too many: the connection", c.asked().isOpen(), true);
                Client.due("one too many: its last byte", c.asked().at(0, size - 1), (int) 'y');
            }
            is(c, Client.post("/a", "z".repeat(200 - size)), Client.response(204, ""));
            Client.due("just full: its bytes", c.content(0), "y".repeat(size) + "z".repeat(200 - size));
            Client.due("just full: its mark", c.asked().mark(0), 2);
            is(c, Client.post("/a", "x"), Client.empty(413));
            is(c, Client.post("/a", ""), Client.response(204, ""));
            Client.due("nothing behind a full one: its mark", c.asked().mark(0), 3);
            Client.due("nothing behind a full one: its size", c.asked().size(0), 200);
        }
        Client both = Client.withA("y".repeat(200));
        is(both, Client.post("/a", "z".repeat(200)), Client.empty(413));
        Client.due("two full ones: its size", both.asked().size(0), 200);
        is(both, Client.get("/a"), Client.whole("y".repeat(200), 1));
    }

    private static void deleteOfNothing() {
        Client.sentence("DELETE: 404 when it is not there, otherwise it goes: 204.");
        Client c = Client.withA("hello");
        is(c, Client.ask("DELETE", "/b"), Client.empty(404));
        Client.due("what it leaves", c.site(), "changes 1, a of mark 1: hello");
        is(c, Client.ask("DELETE", "/a"), Client.response(204, ""));
        Client.due("it goes", c.site(), "changes 2");
        is(c, Client.ask("DELETE", "/a"), Client.empty(404));
        Client.due("a second time", c.site(), "changes 2");
        Client empty = Client.withA("");
        is(empty, Client.ask("DELETE", "/a"), Client.response(204, ""));
        Client.due("an empty one goes", empty.site(), "changes 2");
    }

    private static void contentLengthOrNone() {
        Client.sentence("Content-Length, the number of the body's bytes, unless it is 100, 204 or 304.");
        int[] sizes = {0, 1, 9, 10, 11, 99, 100, 101, 199, 200};
        for (int size : sizes) {
            Client c = Client.withA("z".repeat(size));
            is(c, Client.get("/a"), Client.whole("z".repeat(size), 1));
            is(c, Client.ask("HEAD", "/a"), Client.response(200, "", "Content-Length: " + size, "ETag: \"1\""));
        }
        Client c = Client.withA("hello");
        is(c, Client.put("/b", ""), Client.empty(201));
        is(c, Client.put("/b", "x"), Client.response(204, ""));
        is(c, Client.get("/a", "If-None-Match: *"), Client.response(304, "", "ETag: \"1\""));
        is(c, Client.get("/c"), Client.empty(404));
        is(c, Client.ask("HEAD", "/c"), Client.empty(404));
        is(c, "PUT /a HTTP/1.1\r\nHost: x\r\nExpect: 100-continue\r\nContent-Length: 1\r\n\r\n", Client.response(100, ""));
    }

    private static void etagOfAResource() {
        Client.sentence("ETag, the mark in quotes, for 200, 206, 304 of a resource.");
        String put = "PUT /a HTTP/1.1\r\nHost:\r\n\r\n";
        int[] marks = {1, 9, 10, 99, 100};
        for (int mark : marks) {
            Client c = new Client();
            c.send(put.repeat(mark - 1) + Client.put("/a", "hello"));
            is(c, Client.get("/a"), Client.whole("hello", mark));
            is(c, range("bytes=1-1"), part("e", mark, "1-1/5"));
            is(c, Client.get("/a", "If-None-Match: *"), Client.response(304, "", "ETag: \"" + mark + "\""));
            is(c, range("bytes=9-"), beyond(5));
            is(c, Client.get("/"), Client.response(200, "a", "Content-Length: 1"));
            is(c, Client.get("/b"), Client.empty(404));
        }
    }

    private static void allowOfSome() {
        Client.sentence("Allow, \"GET, HEAD, PUT, POST, DELETE, OPTIONS\", for OPTIONS and 405.");
        String[] methods = {"OPTIONS", "TRACE"};
        String[] due = {Client.response(204, "", ALLOW), Client.response(405, "", "Content-Length: 0", ALLOW)};
        for (int k = 0; k < methods.length; k++) {
            String wire = Client.ask(methods[k], "/a");
            Client c = Client.withA("hello");
            is(c, wire + Client.get("/a"), due[k] + Client.whole("hello", 1));
            is(c, wire + Client.ask("HEAD", "/b"), due[k] + Client.empty(404));
            is(c, wire + range("bytes=5-"), due[k] + beyond(5));
            is(c, wire + Client.put("/b", ""), due[k] + Client.empty(201));
            is(c, wire + Client.put("/b", ""), due[k] + Client.response(204, ""));
            is(c, wire + "\n", due[k] + Client.error(400));
        }
    }

    private static void connectionField() {
        Client.sentence("Connection, close, if the connection is closed then, or keep-alive, if it is not and the version's last digit is 0.");
        String old = " /a HTTP/1.0\r\n";
        String keep = old + "Connection: keep-alive\r\n";
        Client c = Client.withA("hello");
        is(c, "GET" + keep + "\r\n", Client.response(200, "hello", "Content-Length: 5", "ETag: \"1\"", "Connection: keep-alive"));
        is(c, "PUT" + keep + "\r\n", Client.response(204, "", "Connection: keep-alive"));
        is(c, "GET" + keep + "Range: bytes=0-\r\n\r\n", Client.response(416, "", "Content-Length: 0", "Content-Range: bytes */0",
                "Connection: keep-alive"));
        is(c, "OPTIONS" + keep + "\r\n", Client.response(204, "", ALLOW, "Connection: keep-alive"));
        is(c, "TRACE" + old + "\r\n", Client.response(405, "", "Content-Length: 0", ALLOW, "Connection: close"));
        Client.due("closed then", c.asked().isOpen(), false);
        is(Client.withA("hello"), Client.get("/a", "Connection: keep-alive"), Client.whole("hello", 1));
        Client wrong = Client.withA("hello");
        is(wrong, "GET" + keep + "bad\r\n", Client.error(400));
        Client.due("an error closes", wrong.asked().isOpen(), false);
    }

    private static void bodyOfGetAlone() {
        Client.sentence("Then the body, for GET with 200 or 206. All others have no bytes.");
        Client c = Client.withA("hello");
        is(c, Client.get("/a"), Client.whole("hello", 1));
        is(c, range("bytes=1-2"), part("el", 1, "1-2/5"));
        is(c, Client.ask("HEAD", "/a"), Client.response(200, "", "Content-Length: 5", "ETag: \"1\""));
        is(c, Client.ask("HEAD", "/"), Client.response(200, "", "Content-Length: 1"));
        is(c, Client.ask("PUT", "/b"), Client.empty(201));
        is(c, Client.get("/c"), Client.empty(404));
        is(c, range("bytes=5-"), beyond(5));
    }
}
