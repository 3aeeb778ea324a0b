import java.lang.management.ManagementFactory;

/** All calls of a run live in one room: what an object makes it makes in its constructor, and that is little. */
public final class RoomTest {
    private static long made() {
        var bean = (com.sun.management.ThreadMXBean) ManagementFactory.getThreadMXBean();
        return bean.getThreadAllocatedBytes(Thread.currentThread().getId());
    }

    private static void everything(PlantedDoubts x, int round) {
        x.state(round);
        x.house();
        x.set(3, round & 7, 5);
        x.line(round & 7, (round >> 3) & 7, true);
        x.feed(0x67726f77, 0x20776174, 0x65722d35, 0x20776865, 0x6e206e6f);
        x.feed(0x74202831, 0x3d32293b, 0x20202020, 0x20202020, 0x20202020);
        x.text(1);
        x.feed(0x32206672, 0x6f6d2030, 0x20616e64, 0x20312067, 0x69766573);
        x.feed(0x2033303b, 0x34206672, 0x6f6d2030, 0x20676976, 0x65732039);
        x.end(round % 40);
        x.text(0);
        x.pot(round & 7, round & 7, round % 10);
        x.water(round & 7, 40);
        x.tell(round & 7, (round >> 2) & 7, 95);
        x.weeks(3);
        x.image(round % 5 > 0);
        x.undo();
        x.talk(round & 7, round % 8, round & 1);
        int sum = 0;
        for (int what = 0; what < 20; what++) {
            sum += x.of(round & 7, what) + x.look(what) + x.gives(what) + x.first(60, what) + x.struck(round & 7, what)
                + x.down(round & 7, what) + x.by(round & 7, what) + x.part(round & 7, what) + x.fits(round & 7, what)
                + x.ask(round & 7, what) + x.waters(round & 7, 30, what) + x.game(what) + x.greenhouses(what) + x.book(what, 1)
                + x.reason(what, 0) + x.fault(what) + x.done();
        }
        if (sum == 42) x.weed(0);
    }

    public static void main(String[] args) {
        everything(new PlantedDoubts(), 1);
        made();
        long before = made();
        PlantedDoubts x = new PlantedDoubts();
        long built = made() - before;
        before = made();
        for (int round = 0; round < 25; round++) everything(x, round);
        long used = made() - before;
        System.out.println("the constructor makes " + built + " bytes, all calls " + used);
        if (built > 64000 || used > 4000) System.exit(1);
    }
}
