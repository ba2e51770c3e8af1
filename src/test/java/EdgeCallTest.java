import java.util.NoSuchElementException;

/** The boundary cases that the document names under THE CONNECTION and under promises 1 to 13. */
public final class EdgeCallTest {
    private static final Class<IllegalArgumentException> NO_ARGUMENT = IllegalArgumentException.class;
    private static final Class<IndexOutOfBoundsException> NO_INDEX = IndexOutOfBoundsException.class;
    private static final Class<NoSuchElementException> NO_ELEMENT = NoSuchElementException.class;

    private static final int[] NO_RESOURCES = {-1, 8, 9, -8, 97, Integer.MIN_VALUE, Integer.MAX_VALUE};

    private static final String CHUNKED = "PUT /b HTTP/1.1\r\nHost: x\r\nTransfer-Encoding: chunked\r\n\r\n";

    // What was read of a request when a call comes, at which stage that is, and the rest of the request.
    private static final String[] READ = {"", "\r", "PUT /b HT", "PUT /b HTTP/1.1\r", "PUT /b HTTP/1.1\r\n", "PUT /b HTTP/1.1\r\nHost: x\r",
        "PUT /b HTTP/1.1\r\nHost: x\r\nContent-Length: 2\r\n\r\n", "PUT /b HTTP/1.1\r\nHost: x\r\nContent-Length: 2\r\n\r\nz",
        CHUNKED, CHUNKED + "2", CHUNKED + "2\r\nz", CHUNKED + "2\r\nzz", CHUNKED + "2\r\nzz\r", CHUNKED + "2\r\nzz\r\n0\r\nA: b"};
    private static final int[] STAGES = {0, 0, 0, 0, 1, 1, 2, 2, 3, 3, 4, 4, 4, 5};
    private static final String LENGTH = "Content-Length: 2\r\n\r\nzz";
    private static final String[] REST = {Client.put("/b", "zz"), "\n" + Client.put("/b", "zz"), "TP/1.1\r\nHost: x\r\n" + LENGTH,
        "\nHost: x\r\n" + LENGTH, "Host: x\r\n" + LENGTH, "\n" + LENGTH, "zz", "z", "2\r\nzz\r\n0\r\n\r\n", "\r\nzz\r\n0\r\n\r\n",
        "z\r\n0\r\n\r\n", "\r\n0\r\n\r\n", "\n0\r\n\r\n", "\r\n\r\n"};

    public static void main(String[] args) {
        closedConnectionIgnores();
        newObject();
        feedOfNothing();
        feedOfNBytes();
        feedTellsResponses();
        feedRefuses();
        openUntilClosed();
        connectKeepsTheSite();
        connectForgetsWhatWasRead();
        connectForgetsWhatWasSent();
        sentSince();
        outOfWhatWasNotSent();
        outOfTheFirst2000();
        outRefuses();
        drainTakes();
        statusOfThisConnection();
        readingTells();
        sizeOfResources();
        sizeRefuses();
        atBytes();
        atRefuses();
        markOfResources();
        markRefuses();
        changesCount();
        upTo512Calls();
        Client.finish();
    }

    private static Client at(int k) {
        Client c = Client.withA("hello");
        c.send(READ[k]);
        return c;
    }

    private static void goesOn(String what, Client c, int k) {
        Client.due(what + ": the rest of the request", c.send(REST[k]), 1);
        Client.due(what + ": its number", c.asked().status(), 201);
        Client.due(what + ": what it made", c.content(1), "zz");
        Client.due(what + ": reading then", c.asked().reading(), 0);
    }

    private static void closedConnectionIgnores() {
        Client.sentence("When it is CLOSED, all further bytes are ignored.");
        String[] closing = {"\n", Client.get("/a", "Connection: close"), "GET /a HTTP/1.0\r\n\r\n"};
        int[] numbers = {400, 200, 200};
        for (int k = 0; k < closing.length; k++) {
            Client c = Client.withA("hello");
            Client.due("what closes", c.send(closing[k]), 1);
            Client.due("its number", c.asked().status(), numbers[k]);
            String closed = c.state();
            Client.due("bytes behind it", c.send("\n\r\n" + Client.put("/a", "x") + "\n".repeat(99) + "\u0000\u00ff"), 0);
            Client.due("what they leave", c.state(), closed);
        }
        Client same = new Client();
        Client.due("bytes of the very same call", same.asked().feed(Client.word("\n\n\n\n\n\n\n\n", 0, 8), 8), 1);
        Client.due("what was sent", same.output(), Client.error(400));
    }

    private static void newObject() {
        Client.sentence("PlainOrigin(): An open connection, a site with nothing there.");
        Client c = new Client();
        Client.due("all that can be asked", c.state(), "open true, status -1, reading 0, sent 0, changes 0, out ");
        Client.due("out(0)", c.asked().out(0), 0L);
        Client.due("out(249)", c.asked().out(249), 0L);
        Client.due("drain", c.asked().drain(), 0);
        Client other = new Client();
        other.send(Client.put("/a", "hello") + "\n");
        Client.due("what another object has read", c.state(), "open true, status -1, reading 0, sent 0, changes 0, out ");
    }

    private static void feedOfNothing() {
        Client.sentence("The n lowest of eight bytes come: n is 0.");
        long[] words = {0, -1, 10, Long.MIN_VALUE, Long.MAX_VALUE, 0x0A0A0A0A0A0A0A0AL};
        for (int k = 0; k < READ.length; k++) {
            Client c = at(k);
            String before = c.state();
            for (long word : words) {
                Client.due("feed(" + word + ", 0)", c.asked().feed(word, 0), 0);
            }
            Client.due("what it leaves", c.state(), before);
            goesOn("behind it", c, k);
        }
    }

    private static void feedOfNBytes() {
        Client.sentence("The n lowest of eight bytes come, the lowest one first: n is 1 .. 8.");
        long[] words = {0x8877665544332211L, 0xFFFEFDFCFBFAF9F8L, -1L, 0L, Long.MIN_VALUE, Long.MAX_VALUE, 0x0A0D0A0D0A0D0A0DL};
        for (int n = 1; n <= 8; n++) {
            for (long word : words) {
                Client c = new Client();
                c.send("PUT /a HTTP/1.1\r\nHost: x\r\nContent-Length: " + (n + 1) + "\r\n\r\n");
                Client.due("n " + n, c.asked().feed(word, n), 0);
                Client.due("one byte more", c.asked().feed('!', 1), 1);
                for (int i = 0; i < n; i++) {
                    Client.due("byte " + i + " of " + word, c.asked().at(0, i), (int) (word >>> (8 * i) & 255));
                }
                Client.due("the byte behind them", c.asked().at(0, n), (int) '!');
            }
        }
    }

    private static void feedTellsResponses() {
        Client.sentence("How many responses were sent by that.");
        Client c = new Client(1);
        String wire = Client.get("/a");
        Client.due("all but the last byte", c.send(wire.substring(0, wire.length() - 1)), 0);
        Client.due("the last byte", c.send("\n"), 1);
        Client.due("the next byte", c.send("G"), 0);
        Client two = new Client();
        two.send("PUT /a HTTP/1.1\r\nHost: x\r\nContent-Length: 1\r\nExpect: 100-continue\r\n\r");
        Client.due("a 100, a response and an error of one call", two.asked().feed(Client.word("\nz\n\n\n", 0, 5), 5), 3);
        Client.due("what was sent", two.output(), Client.response(100, "") + Client.empty(201) + Client.error(400));
    }

    private static void feedRefuses() {
        Client.sentence("IllegalArgumentException: n is not 0 .. 8.");
        int[] wrong = {-1, 9, -8, 10, 16, 256, 264, Integer.MIN_VALUE, Integer.MAX_VALUE};
        for (int k = 0; k < READ.length; k++) {
            Client c = at(k);
            c.refuses("feed n -1", NO_ARGUMENT, () -> c.asked().feed(0x0A0A0A0A0A0A0A0AL, -1));
            c.refuses("feed n 9", NO_ARGUMENT, () -> c.asked().feed(0x0A0A0A0A0A0A0A0AL, 9));
            goesOn("behind it", c, k);
        }
        Client open = Client.withA("hello");
        Client closed = Client.withA("hello");
        closed.send("\n");
        for (int n : wrong) {
            open.refuses("feed n " + n, NO_ARGUMENT, () -> open.asked().feed(10, n));
        }
        closed.refuses("feed n -1 when closed", NO_ARGUMENT, () -> closed.asked().feed(10, -1));
        closed.refuses("feed n 9 when closed", NO_ARGUMENT, () -> closed.asked().feed(10, 9));
        Client.due("feed n 8 when closed", closed.asked().feed(10, 8), 0);
        Client.due("feed n 0 when closed", closed.asked().feed(10, 0), 0);
    }

    private static void openUntilClosed() {
        Client.sentence("isOpen(): Whether the connection is open.");
        for (int k = 0; k < READ.length; k++) {
            Client.due("in the midst of a request", at(k).asked().isOpen(), true);
        }
        String[] staying = {Client.get("/a"), Client.get("/z"), Client.ask("TRACE", "/a"), Client.ask("PUT", "/a", "If-None-Match: *"),
            Client.get("/a", "Range: bytes=9-"), Client.post("/a", "z".repeat(200)), "GET /a HTTP/1.0\r\nConnection: keep-alive\r\n\r\n"};
        int[] numbers = {200, 404, 405, 412, 416, 413, 200};
        for (int k = 0; k < staying.length; k++) {
            Client c = Client.withA("hello");
            c.send(staying[k]);
            Client.due("the number", c.asked().status(), numbers[k]);
            Client.due("behind " + numbers[k], c.asked().isOpen(), true);
        }
        Client last = Client.withA("hello");
        String wire = Client.put("/a", "x").replace("Host: x", "Host: x\r\nConnection: close");
        last.send(wire.substring(0, wire.length() - 1));
        Client.due("before the last request has ended", last.asked().isOpen(), true);
        last.send("x");
        Client.due("behind the last request", last.asked().isOpen(), false);
    }

    private static void connectKeepsTheSite() {
        Client.sentence("connect(): A new connection: the site stays.");
        Client c = Client.withA("hello");
        c.send(Client.put("/h", "") + Client.ask("DELETE", "/h") + Client.put("/b", "\u0000\u00ff"));
        String site = c.site();
        Client.due("the site", site, "changes 4, a of mark 1: hello, b of mark 4: \u0000\u00ff");
        c.asked().connect();
        Client.due("behind connect", c.site(), site);
        c.send("\n");
        c.asked().connect();
        c.asked().connect();
        Client.due("behind three of them", c.site(), site);
        Client.due("it is answered from", c.exchange(Client.get("/a")), Client.whole("hello", 1));
        c.send(Client.put("/a", "x"));
        Client.due("marks go on", c.asked().mark(0), 5);
    }

    private static void connectForgetsWhatWasRead() {
        Client.sentence("What was not read to the end is forgotten.");
        for (int k = 0; k < READ.length; k++) {
            Client c = at(k);
            c.asked().connect();
            Client.due("all that can be asked", c.state(),
                    "open true, status -1, reading 0, sent 0, changes 1, a of mark 1: hello, out ");
            Client.due("a new request", c.exchange(Client.get("/a")), Client.whole("hello", 1));
            Client.due("a new request of chunks", c.exchange(CHUNKED + "1\r\ny\r\n0\r\n" + "A: b\r\n".repeat(4) + "\r\n"), Client.empty(201));
            Client.due("what it made", c.content(1), "y");
        }
        Client last = new Client();
        last.send("PUT /a HTTP/1.0\r\nConnection: close\r\nContent-Length: 2\r\n\r\nz");
        last.asked().connect();
        Client.due("that it was the last request", last.exchange(Client.get("/a")), Client.empty(404));
        Client line = new Client();
        line.send("x".repeat(80));
        line.asked().connect();
        Client.due("a full line", line.send("x".repeat(80)), 0);
    }

    private static void connectForgetsWhatWasSent() {
        Client.sentence("What was sent is forgotten.");
        Client c = Client.withA("hello");
        c.send(Client.get("/a"));
        c.asked().connect();
        Client.due("sent", c.asked().sent(), 0);
        Client.due("out(0)", c.asked().out(0), 0L);
        Client.due("out(6)", c.asked().out(6), 0L);
        Client.due("status", c.asked().status(), -1);
        Client.due("drain", c.asked().drain(), 0);
        c.send(Client.get("/b"));
        Client.due("what is sent then", c.output(), Client.empty(404));
        c.send("\n");
        c.asked().connect();
        Client.due("open again", c.asked().isOpen(), true);
        Client.due("reading again", c.asked().reading(), 0);
        Client.due("a new connection is as a new one", c.exchange(Client.get("/a")), Client.whole("hello", 1));
    }

    private static void sentSince() {
        Client.sentence("sent(): How many bytes were sent since the connection began, or the latest drain().");
        Client c = new Client();
        int length = Client.empty(404).length();
        Client.due("at first", c.asked().sent(), 0);
        for (int k = 1; k <= 80; k++) {
            c.send("GET /a HTTP/1.1\r\nHost:\r\n\r\n");
            Client.due("behind " + k, c.asked().sent(), k * length);
        }
        Client.due("it goes on beyond 2000", c.asked().sent() > 2000, true);
        c.asked().drain();
        Client.due("behind drain", c.asked().sent(), 0);
        c.send("GET /a HTTP/1.1\r\nHost:\r\n\r\nG");
        Client.due("then", c.asked().sent(), length);
        c.asked().connect();
        Client.due("behind connect", c.asked().sent(), 0);
    }

    private static void outOfWhatWasNotSent() {
        Client.sentence("out(i): Eight bytes of what was sent, from 8 i on, the lowest one first, 0 for those that were not sent.");
        for (int size = 0; size <= 16; size++) {
            Client c = Client.withA("\u00ff".repeat(size));
            c.send(Client.get("/a"));
            String due = Client.whole("\u00ff".repeat(size), 1);
            Client.due("sent", c.asked().sent(), due.length());
            String padded = due + "\u0000".repeat(2000 - due.length());
            for (int i = 0; i <= 12; i++) {
                Client.due("out(" + i + ") of " + due.length(), c.asked().out(i), Client.word(padded, 8 * i, 8));
            }
            Client.due("out(249)", c.asked().out(249), 0L);
        }
    }

    private static void outOfTheFirst2000() {
        Client.sentence("Of the first 2000 ones since then alone.");
        // Seven whole responses and two parts of one, the last of which ends before, at and behind the 2000th byte.
        String content = "0123456789".repeat(20);
        String one = Client.whole(content, 1);
        int left = 2000 - 7 * one.length();
        int head = Client.response(206, "", "Content-Length: 10", "ETag: \"1\"", "Content-Range: bytes 10-19/200").length();
        for (int over = -9; over <= 9; over++) {
            Client c = Client.withA(content);
            for (int k = 0; k < 7; k++) {
                c.send(Client.get("/a"));
            }
            String sent = one.repeat(7);
            int first = left / 2 - head;
            int second = left - left / 2 - head + over;
            sent += partOf(c, content, first) + partOf(c, content, second);
            Client.due("bytes in all", c.asked().sent(), 2000 + over);
            Client.due("sent in all", sent.length(), 2000 + over);
            String padded = sent + "\u0000".repeat(16);
            for (int i = 240; i < 250; i++) {
                Client.due("out(" + i + ") of " + sent.length(), c.asked().out(i), Client.word(padded, 8 * i, 8));
            }
            c.send(Client.get("/a"));
            String more = sent + one;
            Client.due("out(249) of more", c.asked().out(249), Client.word(more, 1992, 8));
            Client.due("out(0) of more", c.asked().out(0), Client.word(more, 0, 8));
            Client.due("drain of more", c.asked().drain(), more.length());
            c.send(Client.get("/a"));
            Client.due("out begins anew", c.output(), one);
            Client.due("out(249) then", c.asked().out(249), 0L);
        }
    }

    /** Asks for so many bytes of a, from 10 on, and tells what is due. */
    private static String partOf(Client c, String content, int length) {
        String range = "10-" + (9 + length);
        c.send(Client.get("/a", "Range: bytes=" + range));
        return Client.response(206, content.substring(10, 10 + length), "Content-Length: " + length, "ETag: \"1\"",
                "Content-Range: bytes " + range + "/200");
    }

    private static void outRefuses() {
        Client.sentence("IndexOutOfBoundsException: i is not 0 .. 249.");
        int[] wrong = {-1, 250, 251, -250, 2000, Integer.MIN_VALUE, Integer.MAX_VALUE, 1 << 29};
        Client fresh = new Client();
        Client some = Client.withA("hello");
        some.send(Client.get("/a") + "GET /a HT");
        Client closed = Client.withA("hello");
        closed.send("\n");
        for (int i : wrong) {
            fresh.refuses("out " + i + " of nothing", NO_INDEX, () -> fresh.asked().out(i));
            some.refuses("out " + i, NO_INDEX, () -> some.asked().out(i));
            closed.refuses("out " + i + " when closed", NO_INDEX, () -> closed.asked().out(i));
        }
        Client.due("what was being read goes on", some.send("TP/1.1\r\nHost: x\r\n\r\n"), 1);
        Client.due("out(0)", some.asked().out(0), Client.word("HTTP/1.1", 0, 8));
        Client.due("out(249)", some.asked().out(249), 0L);
        // What an index is does not depend on how much was sent.
        Client much = Client.withA("z".repeat(200));
        much.send(Client.get("/a").repeat(12));
        Client.noIndex("out 250 of much", () -> much.asked().out(250));
        Client.noIndex("out -1 of much", () -> much.asked().out(-1));
    }

    private static void drainTakes() {
        Client.sentence("drain(): What was sent is taken: how many bytes.");
        for (int k = 0; k < READ.length; k++) {
            Client c = Client.withA("hello");
            Client.due("of nothing", c.asked().drain(), 0);
            c.send(Client.get("/a") + READ[k]);
            int length = Client.whole("hello", 1).length();
            Client.due("drain", c.asked().drain(), length);
            Client.due("what it leaves", c.state(), "open true, status 200, reading " + STAGES[k]
                    + ", sent 0, changes 1, a of mark 1: hello, out ");
            Client.due("out(0)", c.asked().out(0), 0L);
            Client.due("a second time", c.asked().drain(), 0);
            goesOn("behind it", c, k);
            Client.due("what was sent since", c.output(), Client.empty(201));
        }
        Client closed = new Client();
        closed.send("\n");
        Client.due("of a closed connection", closed.asked().drain(), Client.error(400).length());
        Client.due("what it leaves", closed.state(), "open false, status 400, reading -1, sent 0, changes 0, out ");
    }

    private static void statusOfThisConnection() {
        Client.sentence("status(): The number of the latest response of this connection; NONE when there was none.");
        Client c = new Client();
        Client.due("at first", c.asked().status(), PlainOrigin.NONE);
        c.send("GET /a HTTP/1.1\r\nHost: x\r\n\r");
        Client.due("before the first", c.asked().status(), PlainOrigin.NONE);
        c.send("\n");
        Client.due("the first", c.asked().status(), 404);
        c.send(Client.put("/a", ""));
        Client.due("the second", c.asked().status(), 201);
        c.asked().drain();
        Client.due("behind drain", c.asked().status(), 201);
        c.send("PUT /a HTTP/1.1\r\nHost: x\r\nContent-Length: 1\r\nExpect: 100-continue\r\n\r\n");
        Client.due("a 100", c.asked().status(), 100);
        c.send("z\n");
        Client.due("an error", c.asked().status(), 400);
        c.asked().connect();
        Client.due("behind connect", c.asked().status(), PlainOrigin.NONE);
    }

    private static void readingTells() {
        Client.sentence("reading(): What is read now; NONE when the connection is closed.");
        for (int k = 0; k < READ.length; k++) {
            Client c = at(k);
            Client.due("behind " + READ[k], c.asked().reading(), STAGES[k]);
            c.send("\r\r\r\r");
            if (!c.asked().isOpen()) {
                Client.due("closed behind " + READ[k], c.asked().reading(), PlainOrigin.NONE);
            }
            c.asked().connect();
            Client.due("connected behind " + READ[k], c.asked().reading(), 0);
        }
        String[] steps = {"\r\n", "PUT /a HTTP/1.1\r", "\n", "Host: x\r\nTransfer-Encoding: chunked\r\n\r", "\n", "3\r", "\n", "a", "bc", "\r",
            "\n", "0\r", "\n", "A: b\r\n", "\r", "\n", "\r\n", "PUT /a HTTP/1.1\r\nHost: x\r\nContent-Length: 2\r\n\r", "\n", "\r", "\n",
            "PUT /a HTTP/1.0\r\nContent-Length: 1\r\n\r\n", "z"};
        int[] due = {0, 0, 1, 1, 3, 3, 4, 4, 4, 4, 3, 3, 5, 5, 5, 0, 0, 1, 2, 2, 0, 2, -1};
        Client c = new Client(1);
        for (int k = 0; k < steps.length; k++) {
            c.send(steps[k]);
            Client.due("step " + k, c.asked().reading(), due[k]);
        }
    }

    private static void sizeOfResources() {
        Client.sentence("size(resource): How many bytes a resource 0 .. 7 has; NONE when it is not there.");
        Client c = new Client();
        for (int r = 0; r <= 7; r++) {
            String target = "/" + (char) ('a' + r);
            Client.due("not there", c.asked().size(r), PlainOrigin.NONE);
            c.send(Client.put(target, ""));
            Client.due("empty", c.asked().size(r), 0);
            c.send(Client.post(target, "zz"));
            Client.due("two bytes", c.asked().size(r), 2);
            c.send(Client.ask("DELETE", target));
            Client.due("gone", c.asked().size(r), PlainOrigin.NONE);
        }
        Client.due("full", Client.withA("z".repeat(200)).asked().size(0), 200);
    }

    private static void sizeRefuses() {
        Client.sentence("size: IllegalArgumentException: there is no such resource.");
        Client c = Client.withA("hello");
        for (int r : NO_RESOURCES) {
            c.refuses("size " + r, NO_ARGUMENT, () -> c.asked().size(r));
        }
        Client.due("size 0", c.asked().size(0), 5);
        Client.due("size 7", c.asked().size(7), PlainOrigin.NONE);
    }

    private static void atBytes() {
        Client.sentence("at(resource, i): A resource's byte.");
        StringBuilder low = new StringBuilder();
        StringBuilder high = new StringBuilder();
        for (int b = 0; b < 128; b++) {
            low.append((char) b);
            high.append((char) (b + 128));
        }
        Client c = new Client();
        c.send(Client.put("/a", low.toString()) + Client.put("/h", high.toString()));
        for (int i = 0; i < 128; i++) {
            Client.due("at(0, " + i + ")", c.asked().at(0, i), i);
            Client.due("at(7, " + i + ")", c.asked().at(7, i), i + 128);
        }
        Client full = Client.withA("y".repeat(199) + "z");
        Client.due("the last byte of a full one", full.asked().at(0, 199), (int) 'z');
    }

    private static void atRefuses() {
        Client.sentence("at: IllegalArgumentException: there is no such resource; NoSuchElementException: it is not there, or has no such byte.");
        for (int r : NO_RESOURCES) {
            Client none = Client.withA("hello");
            none.refuses("at " + r, NO_ARGUMENT, () -> none.asked().at(r, 0));
            none.refuses("at " + r + ", no such byte", NO_ARGUMENT, () -> none.asked().at(r, -1));
        }
        int[] noBytes = {-1, 5, 6, 199, 200, Integer.MIN_VALUE, Integer.MAX_VALUE};
        for (int i : noBytes) {
            Client some = Client.withA("hello");
            some.refuses("at 0, " + i, NO_ELEMENT, () -> some.asked().at(0, i));
        }
        Client c = new Client();
        c.send(Client.put("/a", "hello") + Client.put("/b", "") + Client.put("/c", "x") + Client.ask("DELETE", "/c"));
        c.asked().drain();
        Client.due("at 0, 0", c.asked().at(0, 0), (int) 'h');
        Client.due("at 0, 4", c.asked().at(0, 4), (int) 'o');
        int[] indexes = {-1, 0, 1};
        for (int i : indexes) {
            Client.noElement("at of an empty one, " + i, () -> c.asked().at(1, i));
            Client.noElement("at of one that went, " + i, () -> c.asked().at(2, i));
            Client.noElement("at of one that was never there, " + i, () -> c.asked().at(7, i));
        }
        c.send(Client.put("/a", "hi"));
        Client.noElement("at behind a shorter one", () -> c.asked().at(0, 2));
        Client full = Client.withA("z".repeat(200));
        Client.noElement("at 200 of a full one", () -> full.asked().at(0, 200));
    }

    private static void markOfResources() {
        Client.sentence("mark(resource): A resource's mark; NONE when it is not there.");
        Client c = new Client();
        for (int r = 0; r <= 7; r++) {
            String target = "/" + (char) ('a' + r);
            Client.due("not there", c.asked().mark(r), PlainOrigin.NONE);
            c.send(Client.put(target, ""));
            Client.due("made", c.asked().mark(r), 3 * r + 1);
            c.send(Client.post(target, ""));
            Client.due("changed", c.asked().mark(r), 3 * r + 2);
            c.send(Client.ask("DELETE", target));
            Client.due("gone", c.asked().mark(r), PlainOrigin.NONE);
        }
    }

    private static void markRefuses() {
        Client.sentence("mark: IllegalArgumentException: there is no such resource.");
        Client c = Client.withA("hello");
        for (int r : NO_RESOURCES) {
            c.refuses("mark " + r, NO_ARGUMENT, () -> c.asked().mark(r));
        }
        Client.due("mark 0", c.asked().mark(0), 1);
        Client.due("mark 7", c.asked().mark(7), PlainOrigin.NONE);
    }

    private static void changesCount() {
        Client.sentence("changes(): How many changes the site has had.");
        Client c = new Client();
        Client.due("at first", c.asked().changes(), 0);
        String[] without = {Client.get("/a"), Client.ask("DELETE", "/a"), Client.post("/a", "x"), Client.put("/i", "x"), Client.put("/", "x"),
            Client.ask("OPTIONS", "/a"), Client.ask("TRACE", "/a")};
        for (String wire : without) {
            c.send(wire);
            Client.due("none behind " + wire, c.asked().changes(), 0);
        }
        c.send(Client.put("/a", "z".repeat(200)));
        Client.due("a PUT", c.asked().changes(), 1);
        c.send(Client.post("/a", "x"));
        Client.due("a POST of too much", c.asked().changes(), 1);
        c.send(Client.ask("PUT", "/a", "If-None-Match: *"));
        Client.due("a PUT that must not be", c.asked().changes(), 1);
        c.send(Client.post("/a", ""));
        Client.due("a POST of nothing", c.asked().changes(), 2);
        c.send(Client.ask("DELETE", "/a"));
        Client.due("a DELETE", c.asked().changes(), 3);
        c.send(Client.ask("DELETE", "/a"));
        Client.due("a DELETE of nothing", c.asked().changes(), 3);
        c.asked().connect();
        Client.due("behind connect", c.asked().changes(), 3);
    }

    private static void upTo512Calls() {
        Client.sentence("An object is used for at most 512 calls after it has been made.");
        PlainOrigin x = new PlainOrigin();
        String put = "PUT /a HTTP/1.1\r\nHost:\r\n\r\n";
        String wire = put.repeat(160);
        int responses = 0;
        for (int k = 0; k < 508; k++) {
            responses += x.feed(Client.word(wire, 8 * k, 8), 8);
        }
        int due = 508 * 8 / put.length();
        Client.due("responses", responses, due);
        Client.due("changes", x.changes(), due);
        Client.due("mark", x.mark(0), due);
        Client.due("sent", x.sent(), Client.empty(201).length() + (due - 1) * Client.response(204, "").length());
        Client.due("the 512th call", x.isOpen(), true);
    }
}
