import java.lang.management.ManagementFactory;
import java.util.Random;

/** All rows are made with the object: the calls after that make none, as all calls of a run share one room. */
public final class RoomTest {
  private static final int OBJECTS = 50;
  private static final int CALLS = 512;

  public static void main(String[] args) {
    com.sun.management.ThreadMXBean threads = (com.sun.management.ThreadMXBean) ManagementFactory.getThreadMXBean();
    if (!threads.isThreadAllocatedMemorySupported()) {
      System.out.println("this machine does not tell what is made: nothing was looked at");
      return;
    }
    Random random = new Random(7);
    HedgeGame[] games = new HedgeGame[OBJECTS + 1];
    games[OBJECTS] = new HedgeGame();
    use(games[OBJECTS], random);
    long thread = Thread.currentThread().getId();

    long start = threads.getThreadAllocatedBytes(thread);
    for (int i = 0; i < OBJECTS; i++) {
      games[i] = new HedgeGame();
    }
    long made = (threads.getThreadAllocatedBytes(thread) - start) / OBJECTS;

    start = threads.getThreadAllocatedBytes(thread);
    long sum = 0;
    for (int i = 0; i < OBJECTS; i++) {
      sum += use(games[i], random);
    }
    long used = threads.getThreadAllocatedBytes(thread) - start;
    System.out.println(made + " bytes an object, " + used + " bytes for " + OBJECTS * CALLS + " calls (" + sum + ")");
    // Some thousand bytes are the machine's own; one row of eight numbers a call would be over a million.
    if (made > 32768 || used > 200000) {
      System.out.println("too much room is taken");
      System.exit(1);
    }
  }

  private static long use(HedgeGame x, Random random) {
    long sum = 0;
    String text = "w-,b0,t-,d-,i-,b-,d5,t1";
    for (int i = 0; i < text.length(); i++) {
      sum += x.letter(text.charAt(i));
    }
    sum += x.hedge();
    for (int call = text.length() + 1; call < CALLS; call++) {
      sum += any(x, random.nextInt(20), random.nextInt(8), random.nextInt(2), random.nextInt(5));
    }
    return sum;
  }

  private static long any(HedgeGame x, int which, int branch, int side, int kind) {
    switch (which) {
      case 0: return x.cut(branch);
      case 1: return x.grow(branch);
      case 2: return x.graft(branch, kind);
      case 3: return x.best(side);
      case 4: return x.lasts(side);
      case 5: return x.worth();
      case 6: return x.tree(branch);
      case 7: return x.even();
      case 8: return x.likely(side);
      case 9: return x.see(branch, side, kind > 2);
      case 10: return x.forget();
      case 11: return x.games(40, kind, side);
      case 12: return x.image();
      case 13: return x.restore();
      case 14: return x.branch(branch, 6);
      case 15: return x.branch(branch, 7);
      case 16: return x.count(kind);
      case 17: return x.digest();
      case 18: return x.as(branch, kind);
      default: return x.wins(side);
    }
  }
}
