import java.lang.management.ManagementFactory;
import java.lang.reflect.Array;
import java.lang.reflect.Field;
import java.lang.reflect.Modifier;
import java.util.ArrayList;
import java.util.IdentityHashMap;
import java.util.List;
import java.util.Map;

/** What an object takes of the room that all calls of a run share, and that its calls take no more of it. */
public final class RoomTest {
    private static final int MOST_OBJECTS = 60;
    private static final int MOST_CELLS = 7000;
    private static final int MOST_CALLS_BYTES = 2000;

    // Requests of all kinds, full lines and heads and bodies among them; each of them leaves the connection open.
    private static final String CHUNKED = "PUT /h HTTP/1.1\r\nHost: x\r\nTransfer-Encoding: chunked\r\nExpect: 100-continue\r\n\r\n";
    private static final String WIRE = Client.put("/a", "z".repeat(200)) + Client.get("/a") + Client.get("/a", "Range: bytes=-9")
            + CHUNKED + "c8;x\r\n" + "y".repeat(200) + "\r\n0\r\nA: b\r\n\r\n" + Client.get("/") + Client.ask("OPTIONS", "*")
            + Client.get("/a", "If-None-Match: " + "a,".repeat(30), "If-None-Match: *", "A:" + "b".repeat(78))
            + Client.post("/h", "x") + Client.ask("DELETE", "/a") + Client.ask("TRACE", "/a");

    private static final int RESPONSES = 11;

    private static int cells;

    public static void main(String[] args) {
        roomOfAnObject();
        roomOfItsCalls();
        Client.finish();
    }

    private static void roomOfAnObject() {
        PlainOrigin origin = new PlainOrigin();
        int objects = objectsOf(origin);
        int before = cells;
        Client.due("objects and arrays of a new one: " + objects, objects <= MOST_OBJECTS, true);
        Client.due("fields and elements of a new one: " + before, before <= MOST_CELLS, true);
        Client.due("responses to its calls", use(origin), RESPONSES);
        Client.due("objects and arrays behind its calls", objectsOf(origin), objects);
        Client.due("fields and elements behind its calls", cells, before);
    }

    private static void roomOfItsCalls() {
        // The first run also loads what the calls need; a later one shows what the calls themselves make.
        use(new PlainOrigin());
        long before = bytesMade();
        PlainOrigin origin = new PlainOrigin();
        long made = bytesMade();
        use(origin);
        long used = bytesMade();
        Client.due("bytes of a new one are seen: " + (made - before), made - before > MOST_CALLS_BYTES, true);
        Client.due("bytes that its calls make: " + (used - made), used - made < MOST_CALLS_BYTES, true);
    }

    private static long bytesMade() {
        com.sun.management.ThreadMXBean threads = (com.sun.management.ThreadMXBean) ManagementFactory.getThreadMXBean();
        return threads.getThreadAllocatedBytes(Thread.currentThread().getId());
    }

    /** Some four hundred calls; how many responses were sent by them. */
    private static int use(PlainOrigin origin) {
        int responses = 0;
        for (int from = 0; from < WIRE.length(); from += 8) {
            int n = Math.min(8, WIRE.length() - from);
            responses += origin.feed(Client.word(WIRE, from, n), n);
        }
        for (int i = 0; i < 250; i++) {
            origin.out(i);
        }
        origin.drain();
        origin.connect();
        return responses;
    }

    /** How many objects and arrays can be reached from one; cells has the number of their fields and elements then. */
    private static int objectsOf(Object root) {
        Map<Object, Boolean> seen = new IdentityHashMap<>();
        List<Object> left = new ArrayList<>(List.of(root));
        cells = 0;
        while (!left.isEmpty()) {
            Object next = left.remove(left.size() - 1);
            if (next != null && !(next instanceof Enum) && seen.put(next, true) == null) {
                open(next, left);
            }
        }
        return seen.size();
    }

    private static void open(Object holder, List<Object> left) {
        if (holder.getClass().isArray()) {
            int length = Array.getLength(holder);
            cells += length;
            for (int i = 0; i < length && holder instanceof Object[]; i++) {
                left.add(Array.get(holder, i));
            }
            return;
        }
        for (Field field : holder.getClass().getDeclaredFields()) {
            if (!Modifier.isStatic(field.getModifiers())) {
                cells++;
                if (!field.getType().isPrimitive()) {
                    left.add(valueOf(field, holder));
                }
            }
        }
    }

    private static Object valueOf(Field field, Object holder) {
        try {
            field.setAccessible(true);
            return field.get(holder);
        } catch (IllegalAccessException e) {
            throw new IllegalStateException(e);
        }
    }
}
