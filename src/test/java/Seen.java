import java.util.function.LongSupplier;

/**
 * All that can be asked of a mill, as one text: what its calls tell, and then what it makes of a tape, a run,
 * a plan and a row. It takes some 330 calls and changes the mill.
 */
final class Seen {
    private final RollMill mill;
    private final StringBuilder all = new StringBuilder();

    private Seen(RollMill mill) {
        this.mill = mill;
    }

    static String of(RollMill mill) {
        Seen seen = new Seen(mill);
        seen.counts();
        seen.stands();
        seen.kept();
        seen.readings();
        seen.ask(() -> mill.run(777));
        seen.stands();
        seen.ask(() -> mill.rules(mill.count(7)));
        seen.ask(() -> mill.run(888));
        seen.stands();
        seen.ask(() -> mill.plan(1000, 10, 900));
        seen.ask(mill::row);
        seen.kept();
        return seen.all.toString();
    }

    private void ask(LongSupplier call) {
        try {
            all.append(call.getAsLong()).append(' ');
        } catch (RuntimeException thrown) {
            all.append(thrown.getClass().getSimpleName()).append(' ');
        }
    }

    private void counts() {
        for (int what = 0; what <= 7; what++) {
            int asked = what;
            ask(() -> mill.count(asked));
        }
        ask(mill::fault);
        ask(() -> mill.press(60_000, 99));
        ask(() -> mill.press(250, 10));
    }

    /** The stands with their latest run. */
    private void stands() {
        all.append("stands ");
        for (int s = 0; s < mill.count(1); s++) {
            int stand = s;
            ask(() -> mill.standOf(stand, 0));
            ask(() -> mill.standOf(stand, 1));
            ask(() -> mill.standOf(stand, 2));
            ask(() -> mill.bite(stand, 1200, 20, 0));
            ask(() -> mill.pull(stand));
            ask(() -> mill.out(stand, 0));
            ask(() -> mill.out(stand, mill.count(3) - 1));
        }
        for (int what = 0; what < 5; what++) {
            int asked = what;
            ask(() -> mill.ran(asked));
        }
        ask(() -> mill.gauge(0));
        ask(() -> mill.gauge(3));
        ask(() -> mill.gauge(43));
        ask(() -> mill.lost(false, 10));
        ask(() -> mill.lost(true, 300));
    }

    /** The plan and the row that are kept. */
    private void kept() {
        all.append("kept ");
        for (int i = 0; i < 15; i++) {
            int asked = i;
            ask(() -> mill.planned(asked / 3, asked % 3));
        }
        for (int i = 0; i < 10; i++) {
            int asked = i;
            ask(() -> mill.rowed(asked));
        }
    }

    private void readings() {
        all.append("readings ");
        for (int what = 0; what < 4; what++) {
            int asked = what;
            ask(() -> mill.known(0, asked, 910, 5, 0));
            ask(() -> mill.known(0, asked, 910, 5, mill.count(0)));
            ask(() -> mill.known(9, asked, 910, 5, 0));
            ask(() -> mill.known(9, asked, 910, 5, mill.count(0)));
        }
    }
}
