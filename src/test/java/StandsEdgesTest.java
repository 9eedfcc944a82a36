import java.util.function.Supplier;

/** Promises 1 to 8 at their edges, sentence by sentence: what is least, most, too much, none yet, refused. */
public final class StandsEdgesTest {
    private static final int MIN = Integer.MIN_VALUE;
    private static final int MAX = Integer.MAX_VALUE;

    public static void main(String[] args) {
        newObject();
        nothingIsShared();
        standNumbers();
        highNotBelowLow();
        fiveStands();
        standAtFirst();
        standAndTheRun();
        pointNumbers();
        pointsAboveThoseAhead();
        tenPoints();
        pressNumbers();
        pressAtPoints();
        pressCutDown();
        pressAtMost();
        biteWhat();
        biteNumbers();
        openBite();
        leastOut();
        noLessThanThePress();
        wearOfTheBite();
        gapEdges();
        changeEdges();
        standOfEdges();
        wearCutDown();
        Check.end("StandsEdgesTest");
    }

    /** Promise 1: no STANDS; TONIGHT 0. */
    private static void newObject() {
        for (int what = 0; what <= 7; what++) {
            int asked = what;
            Twins.asks("count " + what + " of a new object", Mills::empty, mill -> mill.count(asked), 0);
        }
        Twins.asks("a new object's fault", Mills::empty, RollMill::fault, -1);
        Twins.asks("readings known tonight", Mills::empty, mill -> mill.known(9, 0, 1, 0, 0), 0);
        Twins.illegal("no evening 1", Mills::empty, mill -> mill.known(9, 0, 1, 0, 1));
        Twins.illegal("no byte on the tape", Mills::empty, mill -> mill.rules(1));
        Twins.noSuch("no run", Mills::empty, mill -> mill.ran(0));
        Twins.noSuch("no run to lose of", Mills::empty, mill -> mill.lost(false, 0));
        Twins.noSuch("no gauge", Mills::empty, mill -> mill.gauge(0));
        Twins.noSuch("no row", Mills::empty, mill -> mill.rowed(0));
        Twins.noSuch("no reading", Mills::empty, mill -> mill.back(0) ? 1 : 0);
        Twins.none("no stand to plan for", Mills::empty, mill -> mill.plan(5, 5, 5));
        noSuchStand("a new object", Mills::empty, 0);
    }

    /** No such STAND, as everywhere. */
    private static void noSuchStand(String where, Supplier<RollMill> made, int stand) {
        String what = where + " has no stand " + stand + ": ";
        Twins.noSuch(what + "bite", made, mill -> mill.bite(stand, 5, 5, 0));
        Twins.noSuch(what + "gap", made, mill -> mill.gap(stand, 500));
        Twins.noSuch(what + "change", made, mill -> mill.change(stand));
        Twins.noSuch(what + "standOf", made, mill -> mill.standOf(stand, 0));
        Twins.noSuch(what + "out", made, mill -> mill.out(stand, 0));
        Twins.noSuch(what + "pull", made, mill -> mill.pull(stand));
        Twins.noSuch(what + "planned", made, mill -> mill.planned(stand, 0));
        Twins.noSuch(what + "fits", made, mill -> mill.fits(stand, 2, 500L << 17, 0, 0, 0, 0, 1, 1) ? 1 : 0);
        Twins.noSuch(what + "waves", made, mill -> mill.waves(stand, 1, 1, 1, 1, 1, 1, 0, 0));
    }

    private static void nothingIsShared() {
        RollMill first = new RollMill();
        Mills.full();
        String untouched = Seen.of(new RollMill());
        Check.holds("an older object hears nothing of another", Seen.of(first).equals(untouched));
        noSuchStand("some mill", Mills::some, 2);
        noSuchStand("some mill", Mills::some, -1);
        noSuchStand("a full mill", Mills::full, 5);
        noSuchStand("a full mill", Mills::full, MAX);
        noSuchStand("a full mill", Mills::full, MIN);
    }

    private static long tellStand(RollMill mill, int[] n) {
        return mill.stand(n[0], n[1], n[2], n[3], n[4], n[5], n[6], n[7]);
    }

    /** Promise 2: NONE, a number is not as told; of each its least, its most, a plain one. */
    private static void standNumbers() {
        int[][] edges = {{1, 999, 100}, {1, 9_999_999, 5000}, {0, 60_000, 0}, {0, 60_000, 60_000}, {1, 60_000, 50}, {1, 999, 10},
            {100, 4000, 1000}, {0, 9, 2}};
        Twins.noneBeyond("the first stand", Mills::empty, StandsEdgesTest::tellStand, edges);
        Twins.noneBeyond("the third stand", Mills::some, StandsEdgesTest::tellStand, edges);
        Check.same("all at their least", new RollMill().stand(1, 1, 0, 0, 1, 1, 100, 0), 0);
        Check.same("all at their most", new RollMill().stand(999, 9_999_999, 60_000, 60_000, 60_000, 999, 4000, 9), 0);
        Twins.none("all too small", Mills::some, mill -> mill.stand(0, 0, -1, -1, 0, 0, 99, -1));
        Twins.none("all too large", Mills::some, mill -> mill.stand(1000, 10_000_000, 60_001, 60_001, 60_001, 1000, 4001, 10));
    }

    /** HIGH not below LOW. */
    private static void highNotBelowLow() {
        for (int low : new int[] {1, 2, 500, 59_999, 60_000}) {
            Check.same("high is low, " + low, new RollMill().stand(1, 1, low, low, 1, 1, 100, 0), 0);
            Twins.none("high is one less than low, " + low, Mills::some, mill -> mill.stand(1, 1, low, low - 1, 1, 1, 100, 0));
        }
        Twins.none("low and high the wrong way round", Mills::some, mill -> mill.stand(1, 1, 60_000, 0, 1, 1, 100, 0));
        RollMill mill = new RollMill();
        mill.stand(1, 1, 7, 7, 1, 1, 100, 0);
        Check.same("the only gap", mill.gap(0, 7), 7);
        Check.illegal("no other above", () -> mill.gap(0, 8));
        Check.illegal("no other below", () -> mill.gap(0, 6));
    }

    /** STANDS, from 0 on, at most 5; NONE: there are 5. */
    private static void fiveStands() {
        RollMill mill = new RollMill();
        for (int i = 0; i < 5; i++) {
            Check.same("stands ahead of stand " + i, mill.count(1), i);
            Check.same("its number", mill.stand(1, 1, 0, i, 1, 1, 100, 0), i);
        }
        Twins.none("the sixth stand", Mills::full, full -> full.stand(1, 1, 0, 0, 1, 1, 100, 0));
        Twins.none("the sixth stand, not as told either", Mills::full, full -> full.stand(0, 1, 0, 0, 1, 1, 100, 0));
    }

    /** Its gap is HIGH at first, WEAR 0 at first. */
    private static void standAtFirst() {
        RollMill mill = new RollMill();
        for (int s = 0; s < 5; s++) {
            mill.stand(1, 1, s, 15_000 * s, 1, 1, 100, 0);
            Check.same("gap at first", mill.standOf(s, 0), 15_000L * s);
            Check.same("wear at first", mill.standOf(s, 1), 0);
            Check.same("changes at first", mill.standOf(s, 2), 0);
        }
        RollMill later = Mills.some();
        later.stand(1, 1, 0, 60_000, 1, 1, 100, 0);
        Check.same("a later stand's wear at first", later.standOf(2, 1), 0);
        Check.same("pulls of a run with it", later.run(1) * 100 + later.pull(2), 0);
    }

    /** No RUN is told of any more; but of a refused stand nothing changes. */
    private static void standAndTheRun() {
        RollMill mill = Mills.some();
        Check.none("refused", mill.stand(0, 0, 0, 0, 0, 0, 0, 0));
        Check.same("the run is told", mill.ran(0), 4);
        Check.same("taken", mill.stand(1, 1, 0, 0, 1, 1, 100, 0), 2);
        Check.noSuch("the run is told no more", () -> mill.ran(0));
        Check.noSuch("nor its outs", () -> mill.out(0, 0));
    }

    /** Promise 3: a POINT, draft (1 to 60,000) and press (1 to 99,999); NONE: not as told. */
    private static void pointNumbers() {
        Twins.noneBeyond("the first point", Mills::empty, (mill, n) -> mill.point(n[0], n[1]), new int[][] {{1, 60_000, 5}, {1, 99_999, 5}});
        Twins.noneBeyond("the third point", Mills::some, (mill, n) -> mill.point(n[0], n[1]),
                new int[][] {{301, 60_000, 500}, {2001, 99_999, 5000}});
        Check.same("least of both", new RollMill().point(1, 1), 1);
        Check.same("most of both", new RollMill().point(60_000, 99_999), 1);
    }

    /** Both above those ahead; 0 and 0 is ahead of the first. */
    private static void pointsAboveThoseAhead() {
        Twins.none("both as those ahead", Mills::some, mill -> mill.point(300, 2000));
        Twins.none("draft as ahead", Mills::some, mill -> mill.point(300, 2001));
        Twins.none("press as ahead", Mills::some, mill -> mill.point(301, 2000));
        Twins.none("draft below", Mills::some, mill -> mill.point(200, 2001));
        Twins.none("press below", Mills::some, mill -> mill.point(301, 1500));
        Twins.none("both 0", Mills::empty, mill -> mill.point(0, 0));
        RollMill mill = Mills.some();
        Check.same("both just above", mill.point(301, 2001), 3);
        Check.none("then that is ahead", mill.point(301, 2001));
        Check.same("most of both", mill.point(60_000, 99_999), 4);
        Check.none("nothing is above that", mill.point(60_000, 99_999));
        Check.same("points", mill.count(2), 4);
    }

    /** At most 10: how many; NONE: there are 10. */
    private static void tenPoints() {
        RollMill mill = new RollMill();
        for (int i = 1; i <= 10; i++) {
            Check.same("how many", mill.point(i, i), i);
        }
        Check.none("the eleventh", mill.point(11, 11));
        Check.same("still ten", mill.count(2), 10);
        Check.same("behind the tenth", mill.press(60_000, 10), 60_000);
        Twins.none("the eleventh, above all", Mills::full, full -> full.point(60_000, 99_999));
    }

    /** Promise 4: IllegalArgumentException, x is not 0 to 60,000, h not 1 to 99; 0 without POINTS. */
    private static void pressNumbers() {
        int[][] edges = {{0, 60_000, 5}, {1, 99, 5}};
        Twins.illegalBeyond("press without points", Mills::empty, (mill, n) -> mill.press(n[0], n[1]), edges);
        Twins.illegalBeyond("press", Mills::full, (mill, n) -> mill.press(n[0], n[1]), edges);
        Twins.asks("without points, the most", Mills::empty, mill -> mill.press(60_000, 99), 0);
        Twins.asks("without points, the least", Mills::empty, mill -> mill.press(0, 1), 0);
        Twins.asks("a draft of 0", Mills::full, mill -> mill.press(0, 99), 0);
    }

    /** On the line between the two POINTS around x; behind the last one on the line through the last two. */
    private static void pressAtPoints() {
        RollMill mill = new RollMill();
        mill.point(10, 100);
        Check.same("ahead of the only point", mill.press(9, 10), 90);
        Check.same("at it", mill.press(10, 10), 100);
        Check.same("behind it, on the line from 0 and 0", mill.press(11, 10), 110);
        mill.point(20, 300);
        Check.same("at the first point", mill.press(10, 10), 100);
        Check.same("just behind it", mill.press(11, 10), 120);
        Check.same("just ahead of the second", mill.press(19, 10), 280);
        Check.same("at the second", mill.press(20, 10), 300);
        Check.same("just behind it, on the line of the last two", mill.press(21, 10), 320);
        mill.point(21, 1300);
        Check.same("at the third", mill.press(21, 10), 1300);
        Check.same("behind it", mill.press(22, 10), 2300);
        Check.same("as ahead of the second", mill.press(19, 10), 280);
    }

    /** Cut down, times h, by 10, cut down. */
    private static void pressCutDown() {
        RollMill mill = new RollMill();
        mill.point(3, 10);
        int[] lines = {0, 3, 6, 10, 13, 16, 20};
        for (int x = 0; x < lines.length; x++) {
            for (int h : new int[] {1, 9, 10, 11, 99}) {
                Check.same("cut down twice, draft " + x, mill.press(x, h), lines[x] * h / 10);
            }
        }
    }

    /** At most 999,999,999. */
    private static void pressAtMost() {
        RollMill just = new RollMill();
        just.point(1, 1);
        just.point(2, 10_002);
        Check.same("just as much", just.press(10_101, 99), 999_999_999);
        Check.same("less by its hardness", just.press(10_101, 98), 101_010_101L * 98 / 10);
        Check.same("less by a draft", just.press(10_100, 99), 101_000_100L * 99 / 10);
        Check.same("more, by a draft", just.press(10_102, 99), 999_999_999);
        RollMill more = new RollMill();
        more.point(1, 2);
        more.point(2, 10_003);
        Check.same("more, by 10 in 10 thousand million", more.press(10_101, 99), 999_999_999);
        RollMill most = new RollMill();
        most.point(1, 1);
        most.point(2, 99_999);
        Check.same("the most there can be", most.press(60_000, 99), 999_999_999);
    }

    /** Promise 5: what 0 OUT, 1 its press; NoSuchElementException, another what. */
    private static void biteWhat() {
        Twins.asks("out", Mills::some, mill -> mill.bite(0, 1000, 10, 0), 948);
        Twins.asks("its press", Mills::some, mill -> mill.bite(0, 1000, 10, 1), 520);
        for (int what : new int[] {-1, 2, MIN, MAX}) {
            Twins.noSuch("what " + what, Mills::some, mill -> mill.bite(0, 1000, 10, what));
            Twins.noSuch("what " + what + ", and no thickness", Mills::some, mill -> mill.bite(0, 0, 0, what));
        }
    }

    /** IllegalArgumentException: in is no thickness, h not 1 to 99. */
    private static void biteNumbers() {
        int[][] edges = {{1, 60_000, 500}, {1, 99, 10}};
        Twins.illegalBeyond("bite", Mills::some, (mill, n) -> mill.bite(1, n[0], n[1], 0), edges);
        Twins.illegalBeyond("press of a bite", Mills::full, (mill, n) -> mill.bite(4, n[0], n[1], 1), edges);
    }

    private static RollMill stiff(int stiffness, int gap, int draft, int press) {
        RollMill mill = new RollMill();
        mill.stand(stiffness, 1, 0, 60_000, 1, 1, 100, 0);
        mill.gap(0, gap);
        if (draft > 0) {
            mill.point(draft, press);
        }
        return mill;
    }

    private static void bitten(String what, RollMill mill, int in, int h, int out, int press) {
        Check.same(what + ": out", mill.bite(0, in, h, 0), out);
        Check.same(what + ": press", mill.bite(0, in, h, 1), press);
    }

    /** OPEN, if its gap is no less than what goes in: that goes out, press 0. */
    private static void openBite() {
        RollMill bare = stiff(1, 500, 0, 0);
        bitten("gap above what goes in", bare, 499, 99, 499, 0);
        bitten("gap as what goes in", bare, 500, 99, 500, 0);
        bitten("gap one below, without points", bare, 501, 99, 500, 0);
        RollMill soft = stiff(10, 500, 1, 10);
        bitten("gap as what goes in", soft, 500, 10, 500, 0);
        bitten("gap one below, pressed by 1 it would be 500: too little", soft, 501, 10, 501, 0);
        bitten("gap two below", soft, 502, 10, 501, 10);
        RollMill wide = stiff(999, 60_000, 1, 1);
        bitten("the greatest gap and thickness", wide, 60_000, 99, 60_000, 0);
        bitten("the greatest gap, the least thickness", wide, 1, 1, 1, 0);
    }

    /** The least whole thickness from 1 up to what goes in. */
    private static void leastOut() {
        RollMill bare = stiff(1, 0, 0, 0);
        bitten("not 0 at gap 0", bare, 60_000, 99, 1, 0);
        bitten("1 to 1", bare, 1, 1, 1, 0);
        RollMill hard = stiff(1, 0, 1, 99_999);
        bitten("not pressed at all", hard, 60_000, 99, 60_000, 0);
        bitten("nor a thin one", hard, 1, 99, 1, 0);
        bitten("2 would ask 9999 and get 1", hard, 2, 1, 2, 0);
        RollMill stiffest = stiff(999, 0, 60_000, 1);
        bitten("from 60000 to 1", stiffest, 60_000, 10, 1, 0);
        bitten("though MOST is 1, the press is told", stiff(999, 0, 1, 9), 60_000, 99, 4914, 55_086 * 9 * 99 / 10);
    }

    /** That less the gap, times stiffness, being no less than PRESS. */
    private static void noLessThanThePress() {
        RollMill mill = stiff(10, 100, 1, 10);
        bitten("just no less", mill, 120, 10, 110, 100);
        bitten("half a unit missing", mill, 121, 10, 111, 100);
        bitten("just no less again", mill, 122, 10, 111, 110);
        RollMill one = stiff(10, 100, 1, 11);
        bitten("one more to press", one, 120, 10, 111, 99);
    }

    /** Wears by 999 with the first segment, by 1 with the second one. */
    private static RollMill wornBy(int segments) {
        RollMill mill = new RollMill();
        mill.stand(999, 9_999_999, 0, 60_000, 1, 1, 100, 0);
        mill.point(1, 100);
        mill.point(2, 99_900);
        mill.gap(0, 0);
        int[] thicknesses = {150, 50};
        for (int i = 0; i < segments; i++) {
            mill.segment(thicknesses[i], 10);
        }
        mill.run(1);
        return mill;
    }

    /** WEAR by 1000, cut down, is as more gap. */
    private static void wearOfTheBite() {
        int[] wears = {0, 999, 1000};
        int[] outs = {200, 200, 201};
        for (int i = 0; i < 3; i++) {
            RollMill mill = wornBy(i);
            Check.same("wear", mill.standOf(0, 1), wears[i]);
            mill.gap(0, 100);
            Check.same("out at a wear of " + wears[i], mill.bite(0, 202, 10, 0), outs[i]);
            Check.same("its press", mill.bite(0, 202, 10, 1), outs[i] == 200 ? 99_900 : 100);
            mill.gap(0, 202);
            Check.same("open by its gap alone", mill.bite(0, 202, 10, 1), 0);
        }
        RollMill open = wornBy(2);
        Check.same("open by its wear alone", open.bite(0, 1, 99, 1), 0);
        open.change(0);
        open.gap(0, 100);
        Check.same("a changed roll", open.bite(0, 202, 10, 0), 200);
    }

    /** Promise 6: IllegalArgumentException, it is not LOW to HIGH; else what it was. */
    private static void gapEdges() {
        Twins.illegalBeyond("gap", Mills::some, (mill, n) -> mill.gap(0, n[0]), new int[][] {{100, 3000, 500}});
        Twins.illegalBeyond("gap of the last stand", Mills::full, (mill, n) -> mill.gap(4, n[0]), new int[][] {{0, 60_000, 500}});
        RollMill mill = Mills.full();
        Check.same("from what it was down to low", mill.gap(4, 0), 934);
        Check.same("from low up to high, farther than screws go", mill.gap(4, 60_000), 0);
        Check.same("to the same", mill.gap(4, 60_000), 60_000);
        Check.same("the other stand stays", mill.standOf(3, 0), 600);
        Check.noSuch("no such stand, and no such gap", () -> mill.gap(5, -1));
    }

    /** Promise 7: its WEAR till then. */
    private static void changeEdges() {
        RollMill mill = Mills.some();
        Check.same("a new roll's", mill.change(1), 0);
        Check.same("a worn one's", mill.change(0), 27);
        Check.same("changed again", mill.change(0), 0);
        Check.same("how often", mill.standOf(0, 2), 2);
        Check.same("the run is still told", mill.ran(0), 4);
        RollMill often = new RollMill();
        often.stand(1, 1, 0, 0, 1, 1, 100, 0);
        for (int i = 0; i < 400; i++) {
            Check.same("no wear", often.change(0), 0);
        }
        Check.same("four hundred times", often.standOf(0, 2), 400);
    }

    /** Promise 8: NoSuchElementException, also another what. */
    private static void standOfEdges() {
        for (int what : new int[] {-1, 3, MIN, MAX}) {
            Twins.noSuch("what " + what, Mills::full, mill -> mill.standOf(4, what));
        }
        Twins.asks("gap", Mills::some, mill -> mill.standOf(0, 0), 942);
        Twins.asks("wear", Mills::some, mill -> mill.standOf(0, 1), 27);
        Twins.asks("changes", Mills::some, mill -> mill.standOf(1, 2), 1);
    }

    /** WEAR grows by its press by 100, cut down. */
    private static void wearCutDown() {
        int[] wears = {0, 0, 1, 1, 2};
        for (int draft = 0; draft < 5; draft++) {
            RollMill mill = new RollMill();
            mill.stand(999, 199, 0, 9, 1, 1, 100, 0);
            mill.gap(0, 0);
            mill.point(1, 99);
            mill.point(2, 100);
            mill.point(3, 199);
            mill.point(4, 200);
            mill.segment(1 + draft, 10);
            Check.same("draft " + draft, mill.run(1), draft == 4 ? 1 : 0);
            Check.same("wear by a press of " + mill.ran(2), mill.standOf(0, 1), draft == 4 ? 0 : wears[draft]);
        }
    }
}
