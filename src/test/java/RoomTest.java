import java.lang.management.ManagementFactory;

/**
 * All calls of one run live in one room: what an object makes is made by its constructor, and no call makes more.
 * The dearest calls are also asked often enough to see that they end soon.
 */
public final class RoomTest {
    private static final long OBJECT_BYTES = 200_000L;

    private static long allocated() {
        com.sun.management.ThreadMXBean bean = (com.sun.management.ThreadMXBean) ManagementFactory.getThreadMXBean();
        return bean.getThreadAllocatedBytes(Thread.currentThread().getId());
    }

    private static CountedTwice full() {
        CountedTwice x = new CountedTwice();
        for (int h = 0; h < 60; h++) {
            x.house(h % 6, h, h % 10);
        }
        for (int e = 0; e < 120; e++) {
            x.feed(0x61626364 + (e % 20 << 24) + e % 7, 0x65666768 + e % 3, 0, 0, 0);
            x.end(8);
            x.entry(e % 2, e % 11, e % 5, e % 3, e * 7, e % 30);
        }
        return x;
    }

    /** With those of full() these are less than the 512 calls of an object. */
    private static void dearCalls(CountedTwice x, int[] same) {
        for (int w = 0; w < same.length; w += 5) {
            x.feed(same[w], same[w + 1], same[w + 2], same[w + 3], same[w + 4]);
        }
        Check.isSo("a text", x.text(0) > 0);
        for (int w = 0; w < same.length; w += 5) {
            x.feed(same[w], same[w + 1], same[w + 2], same[w + 3], same[w + 4]);
        }
        x.text(1);
        x.last(0, 0, 0);
        x.last(0, 1, 1);
        x.last(0, 2, 2);
        x.last(0, 3, 3);
        x.last(0, 4, 4);
        for (int c = 0; c < 6; c++) {
            x.last(1, c, c == 5 ? 2 : 1);
        }
        x.last(2, 0, 4);
        x.last(3, 0, 6);
        x.image(true);
        for (int i = 0; i < 3; i++) {
            x.view(112 + i);
            x.ends(0);
            x.table(-1, 3);
            x.view(0);
            x.best();
            x.view(-1);
            x.even(i);
            x.suspect();
            x.luck(60, 30, 30, 30);
            x.lots(3);
            x.image(false);
        }
    }

    private static int[] text() {
        StringBuilder s = new StringBuilder();
        for (int i = 0; i < 16; i++) {
            s.append("like when letters+").append(i).append("<3;");
        }
        while (s.length() % 20 != 0) {
            s.append(' ');
        }
        byte[] bytes = s.toString().getBytes(java.nio.charset.StandardCharsets.ISO_8859_1);
        int[] words = new int[bytes.length / 4];
        for (int w = 0; w < words.length; w++) {
            words[w] = Check.word(bytes, 4 * w);
        }
        return words;
    }

    public static void main(String[] args) {
        int[] same = text();
        // Once ahead, so that what the machine itself makes to load classes is not counted.
        dearCalls(full(), same);
        long before = allocated();
        CountedTwice x = full();
        dearCalls(x, same);
        long used = allocated() - before;
        Check.isSo("a run's objects take " + used + " bytes", used < OBJECT_BYTES);
        long start = System.nanoTime();
        for (int i = 0; i < 60; i++) {
            dearCalls(full(), same);
        }
        long seconds = (System.nanoTime() - start) / 1_000_000_000L;
        Check.isSo("sixty dear runs take " + seconds + " s", seconds < 60);
        Check.close("RoomTest");
    }
}
