import com.sun.management.ThreadMXBean;
import java.lang.management.ManagementFactory;

/** A long run of dear calls (some 490) makes little: no element is less than a byte, no object less than 16. */
public final class RoomTest {
  private static final ThreadMXBean BEAN = (ThreadMXBean) ManagementFactory.getThreadMXBean();

  private static long made() {
    return BEAN.getThreadAllocatedBytes(Thread.currentThread().getId());
  }

  public static void main(String[] args) {
    run();
    long before = made();
    new PewRank();
    long fresh = made() - before;
    before = made();
    run();
    long whole = made() - before;
    System.out.println("a new object makes " + fresh + " bytes, a long run of dear calls " + whole);
    // 600,000 objects and 7.3 million elements are the room of all calls of a run
    if (fresh > 100_000 || whole > 300_000) System.exit(1);
  }

  private static void run() {
    PewRank x = new PewRank();
    for (int b = 0; b < 8; b++) x.bench(0, 7 * b, 32, b % 3 == 0);
    for (int h = 0; h < 12; h++) x.household(8 * h, 1 + h, 3);
    for (int p = 0; p < 8; p++) x.pillar(7 * p, 40, 1);
    for (int r = 0; r < 60; r++) x.right(r % 4, r % 8, r % 8, r % 16, 5, 0, 199, true);
    x.row(0, 3, 60);
    for (int i = 0; i < 60; i++) x.write(0, i, -1);
    x.row(1, 2, 60);
    for (int i = 0; i < 60; i++) x.write(1, i, i * 7 % 13);
    for (int l = 0; l < 8; l++) x.lot(l, 0, 4, 9);
    for (int l = 0; l < 8; l++) x.offers(l, 1);
    x.knock();
    for (int y = 0; y < 199; y++) x.go();
    for (int i = 0; i < 10; i++) {
      x.beside(0);
      x.beside(3);
      x.sunday(0, 30);
      x.change(4095);
      x.gone(i, i + 1);
      x.benchOf(i, 4);
    }
  }
}
