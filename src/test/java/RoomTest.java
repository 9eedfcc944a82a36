import com.sun.management.ThreadMXBean;
import java.io.IOException;
import java.lang.management.ManagementFactory;
import java.nio.file.Files;
import java.nio.file.Path;
import java.util.NoSuchElementException;
import java.util.function.ToLongFunction;

/** The room that a run of calls takes (rule 12 of LANGUAGE.md): rows are made with the mill, not by its calls; told the program's file. */
public final class RoomTest {
    private static final ThreadMXBean THREADS = (ThreadMXBean) ManagementFactory.getThreadMXBean();
    /** An exception and its trace, or a stand, fits; a row of some hundred numbers doesn't. */
    private static final long BYTES_A_CALL = 1500;
    /** A tenth of the room: 7.3 million elements of 8 bytes. */
    private static final long BYTES_A_RUN = 5_840_000;
    private static final int CALLS = 512;

    public static void main(String[] args) throws IOException {
        // What the machine loads at a first call is not the program's.
        everyCall(false);
        everyCall(true);
        newMill();
        dearestRow();
        rowsAreFields(args[0]);
        Check.end("RoomTest");
    }

    private static long bytesOf(RollMill mill, ToLongFunction<RollMill> call) {
        long ahead = THREADS.getCurrentThreadAllocatedBytes();
        try {
            call.applyAsLong(mill);
        } catch (NoSuchElementException | IllegalArgumentException thrown) {
            // Its bytes count like an answer's.
        }
        return THREADS.getCurrentThreadAllocatedBytes() - ahead;
    }

    private static void small(boolean asked, String what, ToLongFunction<RollMill> call) {
        for (int orders = 0; orders <= 9; orders += 3) {
            long bytes = bytesOf(fullMill(orders), call);
            if (asked) {
                Check.holds(what + " takes " + bytes + " bytes", bytes <= BYTES_A_CALL);
            }
        }
    }

    private static void everyCall(boolean asked) {
        small(asked, "stand", mill -> mill.stand(1, 1, 0, 0, 1, 1, 100, 0));
        small(asked, "point", mill -> mill.point(60_000, 99_999));
        small(asked, "press", mill -> mill.press(60_000, 99));
        small(asked, "bite", mill -> mill.bite(4, 60_000, 99, 1));
        small(asked, "gap", mill -> mill.gap(4, 1));
        small(asked, "change", mill -> mill.change(4));
        small(asked, "standOf", mill -> mill.standOf(4, 2));
        small(asked, "feed", mill -> mill.feed(1, 2, 3, 4, 5));
        small(asked, "rules", mill -> mill.rules(mill.count(7)));
        small(asked, "rules not so many", mill -> mill.rules(401));
        small(asked, "fault", mill -> mill.fault());
        small(asked, "coil", mill -> {
            mill.coil();
            return 0;
        });
        small(asked, "segment", mill -> mill.segment(1, 1));
        small(asked, "run", mill -> mill.run(1));
        small(asked, "ran", mill -> mill.ran(0));
        small(asked, "out", mill -> mill.out(4, 39));
        small(asked, "gauge", mill -> mill.gauge(43));
        small(asked, "pull", mill -> mill.pull(4));
        small(asked, "lost", mill -> mill.lost(true, 0));
        small(asked, "pass", mill -> mill.pass(7));
        small(asked, "plan", mill -> mill.plan(60_000, 10, 1000));
        small(asked, "planned", mill -> mill.planned(4, 2));
        small(asked, "fits", mill -> mill.fits(4, 2, 1L << 17, 0, 0, 0, 0, 1, 1) ? 1 : 0);
        small(asked, "waves", mill -> mill.waves(4, 60_000, 60_000, 60_000, 60_000, 60_000, 99, 999, 0));
        small(asked, "order", mill -> mill.order(1, 1, 1, 1));
        small(asked, "row", mill -> mill.row());
        small(asked, "rowed", mill -> mill.rowed(8));
        small(asked, "evenings", mill -> mill.evenings(1));
        small(asked, "reading", mill -> mill.reading(9, 39, 60_000));
        small(asked, "back", mill -> mill.back(99) ? 1 : 0);
        small(asked, "known", mill -> mill.known(0, 3, 1, 1, 0));
        small(asked, "count", mill -> mill.count(6));
    }

    private static RollMill fullMill(int orders) {
        RollMill mill = new RollMill();
        for (int i = 0; i < 5; i++) {
            mill.stand(999, 9_999_999, 0, 60_000, 60_000, 9, 500, 9);
        }
        for (int i = 0; i < 9; i++) {
            mill.point(1000 * (i + 1), 1000 * (i + 1));
        }
        for (int i = 0; i < 39; i++) {
            mill.segment(60_000, 99);
        }
        for (int i = 0; i < 11; i++) {
            mill.pass(1000 * (i + 1));
        }
        for (int i = 0; i < orders; i++) {
            mill.order(1 + i % 4, 1 + 9000 * (i % 5), 99, 9);
        }
        for (int i = 0; i < 99; i++) {
            mill.reading(0, i % 40, 60_000);
        }
        Check.rules(mill, "stand 0 gap gap-100 unless not gauge<aim or pull<5;late 9;drift 3;tear 99999;loop 99999;");
        Check.feedText(mill, "stand 1 gap ((((((1))))))+not not not not not not 2*3/4-5 unless in<out and 6=7 or wear;"
                + "stand 2 gap press-hard+tick;stand 3 gap 1;stand 4 gap 2;stand 0 gap 3;late 1;drift 2;tear 3;loop 4;");
        return mill;
    }

    /** What a mill takes when it is made, and 512 calls of those above. */
    private static void newMill() {
        long bytes = bytesOf(null, none -> new RollMill().count(0));
        Check.holds("a new mill takes " + bytes + " bytes", bytes + CALLS * BYTES_A_CALL <= BYTES_A_RUN);
    }

    /** Times 512 it counts, though no object can find nine orders' row so often. */
    private static void dearestRow() {
        long all = 0;
        for (int i = 0; i < CALLS; i++) {
            all += bytesOf(fullMill(9), mill -> mill.row());
        }
        Check.holds("512 rows of nine orders take " + all + " bytes", all <= CALLS * BYTES_A_CALL);
    }

    /** Every row and list stands in a field's own line. */
    private static void rowsAreFields(String program) throws IOException {
        int found = 0;
        for (String line : Files.readAllLines(Path.of(program))) {
            if (line.matches(".*new [A-Za-z]+(\\[|<).*")) {
                found++;
                Check.holds("a field's row: " + line, line.matches(" +private (final )?[A-Za-z]+(\\[]|<[A-Za-z]+>) [a-zA-Z]+ = new .*;"));
            }
            Check.holds("no copies: " + line, !line.contains("clone()") && !line.contains("copyOf"));
        }
        Check.holds("there are rows", found > 0);
    }
}
