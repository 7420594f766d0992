import com.sun.management.ThreadMXBean;
import java.lang.management.ManagementFactory;

/** All calls of a run live in one room: a call makes no objects, and a new object stays small. */
public final class RoomTest {
    public static void main(String[] args) {
        ThreadMXBean room = (ThreadMXBean) ManagementFactory.getThreadMXBean();
        long self = Thread.currentThread().getId();
        room.getThreadAllocatedBytes(self);
        dearRun(new IndigoBoats());
        long start = room.getThreadAllocatedBytes(self);
        IndigoBoats x = new IndigoBoats();
        long made = room.getThreadAllocatedBytes(self) - start;
        start = room.getThreadAllocatedBytes(self);
        int calls = dearRun(x);
        long used = room.getThreadAllocatedBytes(self) - start;
        System.out.println("a new object: " + made + " bytes; " + calls + " calls: " + used + " bytes");
        if (made > 40000 || used > 10000) {
            System.out.println("that is too much");
            System.exit(1);
        }
    }

    private static int dearRun(IndigoBoats x) {
        for (int i = 0; i < 8; i++) {
            x.boat(9 * i, i);
        }
        int calls = 8;
        for (int i = 0; i < 10; i++) {
            x.feed(0x2d2a732b64L, 3);
            x.text(0);
            x.feed(0x682b6cL, 3);
            x.text(1);
            x.sheet(i % 4, 32, 40);
            for (int j = 0; j < 3; j++) {
                x.put(i % 4, j, x.then(j + 1, 0));
            }
            x.which(i % 4, 0);
            x.lay(i % 4, 3, 0);
            x.move(i % 4, 0, i % 4, 1, 30);
            x.judge(i % 4);
            x.lies(i % 4);
            x.wayFor(1, 60);
            x.cellFor(1, 60);
            x.kindFor(1, 60);
            x.route(1, 4, 0);
            x.darkFor(60, 700);
            x.odds(30, 300, 0);
            x.full(3, 99);
            x.on(3, 60, 1);
            x.match(5);
            x.blend(77);
            x.voice(7, 3, 5);
            x.tell(4);
            x.check();
            x.image();
            x.loose(3);
            x.restore();
            x.minutes(5);
            x.told(9);
            calls += 37;
        }
        return calls;
    }
}
