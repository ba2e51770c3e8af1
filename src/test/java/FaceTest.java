import java.lang.reflect.Constructor;
import java.lang.reflect.Field;
import java.lang.reflect.Method;
import java.lang.reflect.Modifier;
import java.util.List;
import java.util.TreeSet;

/** Promises 1 to 13, each at its own method: ordinary calls, edges and wrong arguments. */
public final class FaceTest {
    private static final String[] FACE = {
        "public PlainOrigin()",
        "public static final int NONE",
        "public int feed(long,int) throws java.lang.IllegalArgumentException",
        "public boolean isOpen()",
        "public void connect()",
        "public int sent()",
        "public long out(int) throws java.lang.IndexOutOfBoundsException",
        "public int drain()",
        "public int status()",
        "public int reading()",
        "public int size(int) throws java.lang.IllegalArgumentException",
        "public int at(int,int) throws java.lang.IllegalArgumentException,java.util.NoSuchElementException",
        "public int mark(int) throws java.lang.IllegalArgumentException",
        "public int changes()"};

    public static void main(String[] args) {
        publicFace();
        newObject();
        feedCountsResponses();
        feedTakesTheLowestBytes();
        feedRefusesWrongCounts();
        closedIgnoresBytes();
        connectForgets();
        sentAndOutAndDrain();
        outKeepsTheFirst2000();
        outRefusesWrongIndexes();
        statusIsTheLatest();
        readingTellsTheStage();
        sizeAtMark();
        wrongResources();
        changesCount();
        Client.finish();
    }

    /** The members that are not private are those of the document, to the letter. */
    private static void publicFace() {
        TreeSet<String> seen = new TreeSet<>();
        for (Method m : PlainOrigin.class.getDeclaredMethods()) {
            show(seen, m.getModifiers(), m.toString());
        }
        for (Field f : PlainOrigin.class.getDeclaredFields()) {
            show(seen, f.getModifiers(), f.toString());
        }
        for (Constructor<?> c : PlainOrigin.class.getDeclaredConstructors()) {
            show(seen, c.getModifiers(), c.toString());
        }
        Client.due("the face", seen, new TreeSet<>(List.of(FACE)));
        Client.due("the class", Modifier.toString(PlainOrigin.class.getModifiers()), "public final");
        Client.due("its package", PlainOrigin.class.getPackageName(), "");
        Client.due("NONE", PlainOrigin.NONE, -1);
    }

    private static void show(TreeSet<String> seen, int modifiers, String member) {
        if (!Modifier.isPrivate(modifiers)) {
            seen.add(member.replace("PlainOrigin.", ""));
        }
    }

    private static void newObject() {
        PlainOrigin x = new PlainOrigin();
        Client.due("new: isOpen", x.isOpen(), true);
        Client.due("new: sent", x.sent(), 0);
        Client.due("new: out(0)", x.out(0), 0L);
        Client.due("new: out(249)", x.out(249), 0L);
        Client.due("new: drain", x.drain(), 0);
        Client.due("new: status", x.status(), -1);
        Client.due("new: reading", x.reading(), 0);
        Client.due("new: changes", x.changes(), 0);
        for (int r = 0; r < 8; r++) {
            int resource = r;
            Client.due("new: size", x.size(r), -1);
            Client.due("new: mark", x.mark(r), -1);
            Client.noElement("new: at", () -> x.at(resource, 0));
        }
    }

    private static void feedCountsResponses() {
        Client c = new Client(1);
        Client.due("one request", c.send(Client.get("/a")), 1);
        Client.due("two requests in a row", c.send(Client.get("/a") + Client.get("/b")), 2);
        Client.due("part of a request", c.send("GET /"), 0);
        PlainOrigin x = c.origin;
        x.connect();
        c.send("PUT /a HTTP/1.1\r\nHost: x\r\nExpect: 100-continue\r\nContent-Length: 1\r\n\r");
        Client.due("a 100 and the response in one call", x.feed('\n' | 'z' << 8, 2), 2);
        Client.due("number", x.status(), 201);
        x.connect();
        Client.due("an error counts too, and bytes behind it do not", x.feed('\n' | '\n' << 8, 2), 1);
    }

    private static void feedTakesTheLowestBytes() {
        Client c = new Client();
        c.send("PUT /a HTTP/1.1\r\nHost: x\r\nContent-Length: 11\r\n\r\n");
        PlainOrigin x = c.origin;
        Client.due("n 0", x.feed(-1L, 0), 0);
        Client.due("n 8", x.feed(0xFF80_0706_0504_0302L, 8), 0);
        Client.due("n 2 of more", x.feed(0x7777_7777_7777_0A09L, 2), 0);
        Client.due("n 1 of more", x.feed(-2L, 1), 1);
        int[] want = {2, 3, 4, 5, 6, 7, 0x80, 0xFF, 9, 10, 0xFE};
        Client.due("size", x.size(0), want.length);
        for (int i = 0; i < want.length; i++) {
            Client.due("byte " + i, x.at(0, i), want[i]);
        }
    }

    private static void feedRefusesWrongCounts() {
        Client c = new Client();
        PlainOrigin x = c.origin;
        int[] wrong = {-1, 9, Integer.MIN_VALUE, Integer.MAX_VALUE, 16};
        for (int n : wrong) {
            Client.noArgument("feed " + n, () -> x.feed(10, n));
        }
        Client.due("nothing was read", x.status(), -1);
        Client.due("a request goes on as before", c.send(Client.get("/a")), 1);
        c.send("\n");
        Client.due("closed", x.isOpen(), false);
        Client.noArgument("feed 9 when closed", () -> x.feed(10, 9));
    }

    private static void closedIgnoresBytes() {
        Client c = new Client();
        c.send("\n");
        Client.due("closed", c.asked().isOpen(), false);
        int sent = c.asked().sent();
        Client.due("a request when closed", c.send(Client.put("/a", "x")), 0);
        Client.due("sent", c.asked().sent(), sent);
        Client.due("status", c.asked().status(), 400);
        Client.due("reading", c.asked().reading(), -1);
        Client.due("size", c.asked().size(0), -1);
        Client.due("bytes behind the last request of a connection",
                new Client().send(Client.get("/a", "Connection: close") + Client.get("/a")), 1);
    }

    private static void connectForgets() {
        String[] parts = {"GET /a HT", "GET /a HTTP/1.1\r", "GET /a HTTP/1.1\r\nExpect: tea\r\nCo",
            "PUT /b HTTP/1.1\r\nHost: x\r\nContent-Length: 5\r\n\r\nabc",
            "PUT /b HTTP/1.1\r\nHost: x\r\nTransfer-Encoding: chunked\r\n\r\n5\r\nabc",
            "PUT /b HTTP/1.1\r\nHost: x\r\nTransfer-Encoding: chunked\r\n\r\n1\r\na\r",
            "PUT /b HTTP/1.1\r\nHost: x\r\nTransfer-Encoding: chunked\r\n\r\n0\r\nA: b\r\nC: d\r\n", "\n"};
        for (String part : parts) {
            Client c = Client.withA("hello");
            PlainOrigin x = c.origin;
            c.send(part);
            x.connect();
            Client.due("connect: isOpen", x.isOpen(), true);
            Client.due("connect: status", x.status(), -1);
            Client.due("connect: reading", x.reading(), 0);
            Client.due("connect: sent", x.sent(), 0);
            Client.due("connect: out", x.out(0), 0L);
            Client.due("connect: size", x.size(0), 5);
            Client.due("connect: mark", x.mark(0), 1);
            Client.due("connect: changes", x.changes(), 1);
            Client.due("connect: then a request", c.exchange(Client.get("/a")),
                    Client.response(200, "hello", "Content-Length: 5", "ETag: \"1\""));
            String chunks = "PUT /b HTTP/1.1\r\nHost: x\r\nTransfer-Encoding: chunked\r\n\r\n"
                    + "1\r\nz\r\n0\r\nA: 1\r\nB: 2\r\nC: 3\r\nD: 4\r\n\r\n";
            Client.due("connect: then chunks", c.send(chunks), 1);
            Client.due("connect: their size", x.size(1), 1);
        }
    }

    private static void sentAndOutAndDrain() {
        Client c = Client.withA("\u00ff\u0080\u0000z");
        PlainOrigin x = c.origin;
        c.send(Client.get("/a"));
        String want = Client.response(200, "\u00ff\u0080\u0000z", "Content-Length: 4", "ETag: \"1\"");
        Client.due("sent", x.sent(), want.length());
        Client.due("out", c.output(), want);
        Client.due("out(6) past the last byte", x.out(6), 0x7A_00_80L);
        Client.due("out(7)", x.out(7), 0L);
        c.send(Client.ask("DELETE", "/b"));
        String more = want + Client.response(404, "", "Content-Length: 0");
        Client.due("sent adds up", x.sent(), more.length());
        Client.due("out adds up", c.output(), more);
        Client.due("drain", x.drain(), more.length());
        Client.due("drained: sent", x.sent(), 0);
        Client.due("drained: out", x.out(0), 0L);
        Client.due("drained: drain", x.drain(), 0);
        Client.due("drained: status stays", x.status(), 404);
        c.send("GET /a HTTP/1.1\r\nHo");
        x.drain();
        Client.due("drain leaves what is being read", c.exchange("st: x\r\n\r\n"), want);
        c.send("\n");
        x.drain();
        Client.due("drain of a closed connection", x.isOpen(), false);
    }

    private static void outKeepsTheFirst2000() {
        String content = "0123456789".repeat(20);
        Client c = Client.withA(content);
        PlainOrigin x = c.origin;
        String one = Client.response(200, content, "Content-Length: 200", "ETag: \"1\"");
        for (int k = 0; k < 10; k++) {
            c.send(Client.get("/a"));
        }
        Client.due("sent beyond 2000", x.sent(), 10 * one.length());
        Client.due("out(249)", x.out(249), Client.word(one.repeat(10), 8 * 249, 8));
        Client.due("out(248)", x.out(248), Client.word(one.repeat(10), 8 * 248, 8));
        Client.due("out(0)", x.out(0), Client.word(one, 0, 8));
        Client.due("drain beyond 2000", x.drain(), 10 * one.length());
        Client.due("drained: out(249)", x.out(249), 0L);
        c.send(Client.get("/a"));
        Client.due("out begins anew behind a drain", c.output(), one);
    }

    private static void outRefusesWrongIndexes() {
        PlainOrigin x = new PlainOrigin();
        int[] wrong = {-1, 250, Integer.MIN_VALUE, Integer.MAX_VALUE};
        for (int i : wrong) {
            Client.noIndex("out " + i, () -> x.out(i));
        }
    }

    private static void statusIsTheLatest() {
        Client c = new Client();
        c.send(Client.put("/a", "x"));
        Client.due("status", c.asked().status(), 201);
        c.send("GET /a HTTP/1.1\r\nHo");
        Client.due("status while reading", c.asked().status(), 201);
        c.send("st: x\r\n\r\n" + Client.get("/b"));
        Client.due("status of two", c.asked().status(), 404);
        c.send("PUT /a HTTP/1.1\r\nHost: x\r\nExpect: 100-continue\r\nContent-Length: 1\r\n\r\n");
        Client.due("status 100", c.asked().status(), 100);
        c.send("y");
        Client.due("status behind 100", c.asked().status(), 204);
    }

    private static void readingTellsTheStage() {
        Client c = new Client(1);
        String[] parts = {"\r\n", "PUT /a HTTP/1.1\r", "\n", "Host: x\r\n", "Content-Length: 2\r\n\r", "\n", "a", "b",
            "PUT /a HTTP/1.1\r\nHost: x\r\nTransfer-Encoding: chunked\r\n\r", "\n", "1\r", "\n", "z", "\r", "\n",
            "0;x\r", "\n", "T: v\r\n", "\r", "\n", Client.get("/a"), "\n"};
        int[] want = {0, 0, 1, 1, 1, 2, 2, 0, 1, 3, 3, 4, 4, 4, 3, 3, 5, 5, 5, 0, 0, -1};
        for (int k = 0; k < parts.length; k++) {
            c.send(parts[k]);
            Client.due("reading, part " + k, c.asked().reading(), want[k]);
        }
        Client last = new Client();
        last.send(Client.get("/a", "Connection: close"));
        Client.due("reading behind the last request", last.asked().reading(), -1);
    }

    private static void sizeAtMark() {
        Client c = new Client();
        PlainOrigin x = c.origin;
        c.send(Client.put("/h", "\u0000\u007f\u00ff"));
        c.send(Client.put("/b", ""));
        Client.due("size", x.size(7), 3);
        Client.due("at 0", x.at(7, 0), 0);
        Client.due("at 1", x.at(7, 1), 127);
        Client.due("at 2", x.at(7, 2), 255);
        Client.due("mark", x.mark(7), 1);
        Client.due("size of an empty one", x.size(1), 0);
        Client.due("mark of an empty one", x.mark(1), 2);
        Client.due("size of one that is not there", x.size(0), -1);
        Client.due("mark of one that is not there", x.mark(0), -1);
        int[] wrong = {-1, 3, 200, Integer.MIN_VALUE, Integer.MAX_VALUE};
        for (int i : wrong) {
            Client.noElement("at " + i, () -> x.at(7, i));
        }
        Client.noElement("at of an empty one", () -> x.at(1, 0));
        Client.noElement("at of one that is not there", () -> x.at(0, 0));
        c.send(Client.ask("DELETE", "/h"));
        Client.due("size of one that went", x.size(7), -1);
        Client.due("mark of one that went", x.mark(7), -1);
        Client.noElement("at of one that went", () -> x.at(7, 0));
    }

    private static void wrongResources() {
        PlainOrigin x = new PlainOrigin();
        int[] wrong = {-1, 8, Integer.MIN_VALUE, Integer.MAX_VALUE};
        for (int r : wrong) {
            Client.noArgument("size of " + r, () -> x.size(r));
            Client.noArgument("mark of " + r, () -> x.mark(r));
            Client.noArgument("at of " + r, () -> x.at(r, 0));
            Client.noArgument("at of " + r + " with a wrong index", () -> x.at(r, -1));
        }
    }

    private static void changesCount() {
        Client c = new Client();
        PlainOrigin x = c.origin;
        String[] wires = {Client.get("/a"), Client.ask("DELETE", "/a"), Client.post("/a", "x"), Client.put("/a", "x"),
            Client.put("/a", "x"), Client.post("/a", ""), Client.post("/a", "y".repeat(200)), Client.get("/a"),
            Client.ask("HEAD", "/a"), Client.ask("OPTIONS", "/a"), Client.ask("TRACE", "/a"),
            Client.ask("PUT", "/a", "If-None-Match: *"), Client.put("/i", "x"), Client.put("/", "x"),
            Client.ask("DELETE", "/a"), Client.ask("PUT", "/c")};
        int[] want = {0, 0, 0, 1, 2, 3, 3, 3, 3, 3, 3, 3, 3, 3, 4, 5};
        int[] marks = {-1, -1, -1, 1, 2, 3, 3, 3, 3, 3, 3, 3, 3, 3, -1, -1};
        for (int k = 0; k < wires.length; k++) {
            c.send(wires[k]);
            Client.due("changes, request " + k, x.changes(), want[k]);
            Client.due("mark, request " + k, x.mark(0), marks[k]);
        }
        Client.due("the mark of another one", x.mark(2), 5);
    }
}
