import com.sun.management.ThreadMXBean;
import java.lang.management.ManagementFactory;

/** How much the calls of one object make: all of a run lives in one room, so that 512 calls may not fill it. */
public final class RoomTest {
  // The room has 600,000 objects and 7.3 million elements: a hundred full objects at once fill a tenth of it.
  private static final long FULL_OBJECT = 60_000;
  private static final long PLANNER = 40_000;
  // Nothing, but for what the machine itself may make in between.
  private static final long NOTHING = 1_000;
  private static final Check CHECK = new Check("RoomTest");
  private static final ThreadMXBean BEAN = (ThreadMXBean) ManagementFactory.getThreadMXBean();

  private RoomTest() {
  }

  public static void main(String[] args) {
    // The first run of each loads classes, whose bytes are not the object's.
    for (int i = 0; i < 3; i++) {
      boolean counts = i == 2;
      tell(counts, "a full object", full(), FULL_OBJECT);
      tell(counts, "400 plans", plans(), PLANNER);
      tell(counts, "400 trees", trees(), NOTHING);
      tell(counts, "130 texts with a fault", faults(), NOTHING);
      tell(counts, "400 calls of owed", owed(), NOTHING);
    }
    CHECK.close();
  }

  private static void tell(boolean counts, String what, long bytes, long most) {
    if (counts) {
      CHECK.due(what + " made " + bytes + " bytes, at most " + most, bytes <= most, true);
    }
  }

  private static long now() {
    return BEAN.getThreadAllocatedBytes(Thread.currentThread().getId());
  }

  private static LawRock rock() {
    LawRock x = new LawRock();
    int[] n = Check.numbersOf("marks 1+harm when witnesses>1 and not kin=1;        ");
    for (int w = 0; w < 32; w++) {
      for (int i = 0; i < n.length; i += 5) {
        x.feed(n[i], n[i + 1], n[i + 2], n[i + 3], n[i + 4]);
      }
      x.wording();
    }
    for (int i = 0; i < 24; i++) {
      x.person(i % 4, i % 8, -30);
      x.line(i % 3, false);
      x.know(i, i, i, 9);
    }
    return x;
  }

  private static long full() {
    long before = now();
    LawRock x = rock();
    for (int i = 0; i < 10; i++) {
      x.summers(19);
    }
    for (int i = 0; i < 100; i++) {
      x.suit(i % 24, (i + 1) % 24, i % 24, 1, 1, 0);
    }
    return now() - before;
  }

  private static long plans() {
    LawRock x = rock();
    long before = now();
    for (int i = 0; i < 400; i++) {
      x.plan(15 << i % 20, 3, 10 + i % 24);
    }
    return now() - before;
  }

  private static long trees() {
    LawRock x = rock();
    long before = now();
    for (int i = 0; i < 400; i++) {
      x.tree(255 << i % 24, 0);
    }
    return now() - before;
  }

  private static long faults() {
    LawRock x = new LawRock();
    int[] n = Check.numbersOf("marks 1 when ((((((((1=1)))))))) and ((((((((1=1))))))) or;");
    long before = now();
    for (int i = 0; i < 130; i++) {
      for (int j = 0; j < n.length; j += 5) {
        x.feed(n[j], n[j + 1], n[j + 2], n[j + 3], n[j + 4]);
      }
      x.wording();
    }
    return now() - before;
  }

  private static long owed() {
    LawRock x = rock();
    x.summers(9);
    long before = now();
    for (int i = 0; i < 400; i++) {
      x.owed(i % 24, i % 9, 1, 1, 1, 1, 1);
    }
    return now() - before;
  }
}
