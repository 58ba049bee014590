import com.sun.management.ThreadMXBean;
import java.lang.management.ManagementFactory;

/** What 512 dear calls on one object make: all calls of a run live in one room, so it must stay small. */
public final class RoomTest {
    private static final long MOST_BYTES_MADE = 64 * 1024;

    private static final ThreadMXBean BEAN = (ThreadMXBean) ManagementFactory.getThreadMXBean();

    public static void main(String[] args) {
        dearCalls();
        long before = BEAN.getThreadAllocatedBytes(Thread.currentThread().getId());
        dearCalls();
        long made = BEAN.getThreadAllocatedBytes(Thread.currentThread().getId()) - before;
        System.out.println("an object and its 512 calls made " + made + " bytes");
        if (made > MOST_BYTES_MADE) {
            System.exit(1);
        }
    }

    private static void dearCalls() {
        HangedWords x = new HangedWords();
        int[] codes = {1123, 1213, 4561, 7891, 2345, 9009, 9, 5577};
        for (int code : codes) {
            x.word(code);
        }
        String text = "game 5;word 1 1 2 3;word 4 5 6 7;guess 9;";
        for (int i = 0; i < text.length(); i++) {
            x.type(text.charAt(i));
        }
        for (int i = 0; i < 38; i++) {
            x.image(i % 2);
            x.surely(1);
            x.against(35);
            x.look();
            x.ask();
            x.evenings(i, 60);
            x.luck(3);
            x.mean(4);
            x.read();
            x.from(i % 2);
            x.guess(i % 10);
            x.digest();
        }
    }
}
