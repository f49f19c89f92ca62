import java.lang.management.ManagementFactory;

/** Rule 12: calls make nothing, and a new object makes little. */
final class RoomTest {
    public static void main(String[] args) {
        com.sun.management.ThreadMXBean room = (com.sun.management.ThreadMXBean) ManagementFactory.getThreadMXBean();
        long thread = Thread.currentThread().getId();
        TwoSidedTables x = new TwoSidedTables();
        callAll(x);
        room.getThreadAllocatedBytes(thread);
        long before = room.getThreadAllocatedBytes(thread);
        for (int i = 0; i < 512; i++) {
            callAll(x);
        }
        long after = room.getThreadAllocatedBytes(thread);
        Due.is("512 times all calls make more than 4096 bytes", after - before > 4096 ? after - before : 0, 0);
        before = room.getThreadAllocatedBytes(thread);
        x = new TwoSidedTables();
        after = room.getThreadAllocatedBytes(thread);
        Due.is("a new object takes more than 10000 bytes", after - before > 10000 ? after - before : 0, 0);
        Due.is("size", x.size(2, 2), 22);
        Due.end();
    }

    private static void callAll(TwoSidedTables x) {
        x.size(3, 3);
        x.set(0, 1, 1, 2);
        x.at(0, 1, 1);
        x.det(0);
        x.diagonal(0);
        x.character(0, 1);
        x.feed(0x3b3020302c302030L, 8);
        x.text();
        x.equation(5, 1);
        x.change(0, 5, 1);
        x.lot();
        x.of(0, 6);
        x.right(0, 1, 1);
        x.solution(0, 1, 1, 0);
        x.base(0, 1, 1, 1, 0);
        x.set(0, 1, 0, 0);
        x.set(0, 2, 0, 0);
        x.lower(0, 1);
        x.swapped();
        x.stable();
        x.sheet(1, 2, 9);
        x.lay(0, 0);
        x.judge(0, 0, 1);
        x.kinds(0, 1);
        x.ratio(7540113804746346429L, 4660046610375530309L, 1);
        x.times(0, 30);
        x.witness(0, 1, 1, 0);
        x.size(2, 2);
        x.similar(0);
        x.whole(0);
        x.seed(4);
        x.put(1, 0, 5);
        x.item(1, 2, 0);
        x.move(1, 0, 1, 1, 4);
        x.shelf(0, 0, 0);
        x.taken(0, 3);
        x.change(0, 6, 1);
        x.act(0, 3, 9);
        x.trace(3);
        x.many(5);
        x.keep();
        x.again();
    }
}
