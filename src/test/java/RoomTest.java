import java.lang.management.ManagementFactory;

/** All rows are made by the constructor: 512 calls, rounds among them, must make next to nothing. */
public final class RoomTest {
    private static final int CALLS = 512;
    private static final long MOST_BYTES_IN_CALLS = 20_000;
    private static final long MOST_BYTES_IN_OBJECT = 60_000;

    public static void main(String[] args) {
        Check check = new Check();
        use(new SpeciesRounds(5));
        long start = made();
        SpeciesRounds x = new SpeciesRounds(5);
        long bornWith = made() - start;
        start = made();
        use(x);
        long inCalls = made() - start;
        check.due("a new object has " + bornWith + " bytes", bornWith <= MOST_BYTES_IN_OBJECT, true);
        check.due("its calls make " + inCalls + " bytes", inCalls <= MOST_BYTES_IN_CALLS, true);
        check.end();
    }

    private static void use(SpeciesRounds x) {
        String text = "C(C)(C)CC";
        for (int k = 0; k < text.length(); k++) {
            x.key(text.charAt(k));
        }
        x.enter();
        x.rule(3, 3, -1);
        x.rule(3, 3, 3);
        x.change(0, 0, 1, 1, 0);
        x.change(1, 0, 1, 1, 2);
        for (int call = 20; call < CALLS; call++) {
            if (call % 3 == 0) {
                x.matches(1, 0, 0);
            } else {
                x.round();
            }
        }
    }

    private static long made() {
        return ((com.sun.management.ThreadMXBean) ManagementFactory.getThreadMXBean())
                .getThreadAllocatedBytes(Thread.currentThread().getId());
    }
}
