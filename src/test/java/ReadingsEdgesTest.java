/** Promises 28 to 32 at their edges, sentence by sentence: evenings, readings, what is known, counts. */
public final class ReadingsEdgesTest {
    private static final int MIN = Integer.MIN_VALUE;
    private static final int MAX = Integer.MAX_VALUE;

    public static void main(String[] args) {
        eveningNumbers();
        readingNumbers();
        hundredReadings();
        takenBackOnce();
        backEdges();
        fromThatEveningOn();
        toldLastOfThoseKnown();
        knownNumbers();
        nothingKnown();
        allPlacesKnown();
        leastThickness();
        offByMoreThanE();
        offAnyThickness();
        countEdges();
        Check.end("ReadingsEdgesTest");
    }

    /** Promise 28: IllegalArgumentException, n is below 0, or it would be above 99. */
    private static void eveningNumbers() {
        Twins.illegalBeyond("evenings", Mills::empty, (mill, n) -> mill.evenings(n[0]), new int[][] {{0, 99, 5}});
        Twins.illegalBeyond("evenings from 2 on", Mills::some, (mill, n) -> mill.evenings(n[0]), new int[][] {{0, 97, 5}});
        Twins.illegal("one above 99", Mills::full, mill -> mill.evenings(1));
        Twins.illegal("the most above 99", Mills::full, mill -> mill.evenings(MAX));
        Twins.illegal("one back", Mills::full, mill -> mill.evenings(-1));
        Twins.asks("none goes by", Mills::full, mill -> mill.evenings(0), 99);
        RollMill mill = new RollMill();
        for (int i = 1; i <= 99; i++) {
            Check.same("tonight", mill.evenings(1), i);
        }
        Check.illegal("evening 100", () -> mill.evenings(1));
        Check.same("all at once", new RollMill().evenings(99), 99);
        Check.same("two steps", Mills.some().evenings(97), 99);
    }

    /** Promise 29: NONE, a number is not as told. */
    private static void readingNumbers() {
        int[][] edges = {{0, 9, 4}, {0, 39, 5}, {1, 60_000, 900}};
        Twins.noneBeyond("the first reading", Mills::empty, (mill, n) -> mill.reading(n[0], n[1], n[2]), edges);
        Twins.noneBeyond("the fifth reading", Mills::some, (mill, n) -> mill.reading(n[0], n[1], n[2]), edges);
    }

    /** Numbered from 0 on, at most 100; NONE: there are 100. */
    private static void hundredReadings() {
        RollMill mill = new RollMill();
        for (int i = 0; i < 100; i++) {
            Check.same("its number", mill.reading(i % 10, i % 40, 60_000), i);
        }
        Check.none("the 101st", mill.reading(0, 0, 1));
        Check.same("a hundred", mill.count(6), 100);
        for (int i = 0; i < 100; i++) {
            Check.holds("taken back", mill.back(i));
        }
        Check.none("those taken back count, too", mill.reading(0, 0, 1));
        Twins.none("the 101st", Mills::full, full -> full.reading(9, 39, 60_000));
    }

    /** Promise 30: true; false, it was. */
    private static void takenBackOnce() {
        RollMill mill = new RollMill();
        mill.reading(0, 0, 5);
        mill.reading(0, 0, 6);
        Check.holds("taken back", mill.back(0));
        Check.holds("it was", !mill.back(0));
        Check.holds("the other one wasn't", mill.back(1));
        mill.evenings(5);
        Check.holds("it was, on a later evening too", !mill.back(0));
        Twins.asks("it was", Mills::some, some -> some.back(3) ? 1 : 0, 0);
        Twins.asks("it was", Mills::full, full -> full.back(50) ? 1 : 0, 0);
    }

    /** NoSuchElementException: no such one. */
    private static void backEdges() {
        for (int reading : new int[] {-1, 4, 100, MIN, MAX}) {
            Twins.noSuch("back " + reading, Mills::some, mill -> mill.back(reading) ? 1 : 0);
        }
        for (int reading : new int[] {-1, 100, MIN, MAX}) {
            Twins.noSuch("back " + reading, Mills::full, mill -> mill.back(reading) ? 1 : 0);
        }
        Twins.noSuch("back 0 of none", Mills::empty, mill -> mill.back(0) ? 1 : 0);
        Check.holds("the first one", Mills.full().back(0));
        Check.holds("the last one", Mills.full().back(99));
    }

    /** Told TONIGHT; TAKEN BACK: from that EVENING on it isn't known. */
    private static void fromThatEveningOn() {
        RollMill mill = new RollMill();
        mill.evenings(3);
        mill.reading(1, 0, 700);
        mill.evenings(94);
        mill.back(0);
        mill.evenings(2);
        for (int k = 0; k <= 99; k++) {
            Check.same("known on evening " + k, mill.known(1, 0, 0, 0, k), k >= 3 && k < 97 ? 1 : 0);
        }
        RollMill at99 = new RollMill();
        at99.evenings(99);
        at99.reading(1, 0, 700);
        Check.same("told on the last evening", at99.known(1, 1, 0, 0, 99), 700);
        Check.same("not known ahead of it", at99.known(1, 1, 0, 0, 98), 0);
        at99.back(0);
        Check.same("taken back on the evening it was told", at99.known(1, 1, 0, 0, 99), 0);
        RollMill at0 = new RollMill();
        at0.reading(1, 0, 700);
        at0.back(0);
        at0.evenings(1);
        Check.same("told and taken back on evening 0", at0.known(1, 0, 0, 0, 0), 0);
        Check.holds("taken back on evening 0 is taken back", !at0.back(0));
    }

    /** Of a place counts the READING told last of those known. */
    private static void toldLastOfThoseKnown() {
        RollMill mill = new RollMill();
        for (int i = 0; i < 5; i++) {
            mill.reading(0, 39, 10 + i);
            mill.reading(0, 38, 100);
            mill.evenings(1);
        }
        for (int k = 0; k <= 4; k++) {
            Check.same("the last one on " + k, mill.known(0, 1, 0, 0, k), 110 + k);
        }
        Check.same("still on 5", mill.known(0, 1, 0, 0, 5), 114);
        mill.back(8);
        mill.back(4);
        Check.same("without the last one", mill.known(0, 1, 0, 0, 5), 113);
        mill.back(6);
        Check.same("and the next two", mill.known(0, 1, 0, 0, 5), 111);
        Check.same("as it was known then", mill.known(0, 1, 0, 0, 4), 114);
        mill.reading(0, 39, 7);
        Check.same("a later one counts, though less", mill.known(0, 1, 0, 0, 5), 107);
        Check.same("two places", mill.known(0, 0, 0, 0, 5), 2);
    }

    /** Promise 31: no such COIL, another what; no such EVENING (0 to TONIGHT), e is below 0. */
    private static void knownNumbers() {
        for (int coil : new int[] {-1, 10, MIN, MAX}) {
            Twins.noSuch("coil " + coil, Mills::some, mill -> mill.known(coil, 0, 900, 5, 0));
            Twins.noSuch("coil " + coil + ", no evening, e below 0", Mills::some, mill -> mill.known(coil, 0, 900, -1, 9));
        }
        for (int what : new int[] {-1, 4, MIN, MAX}) {
            Twins.noSuch("what " + what, Mills::some, mill -> mill.known(0, what, 900, 5, 0));
            Twins.noSuch("what " + what + ", no evening, e below 0", Mills::some, mill -> mill.known(0, what, 900, -1, 9));
        }
        for (int what = 0; what <= 3; what++) {
            int asked = what;
            Twins.illegalBeyond("known " + what, Mills::some, (mill, n) -> mill.known(9, asked, 900, n[0], n[1]), new int[][] {{0, MAX, 5}, {0, 2, 1}});
            Twins.illegalBeyond("known " + what, Mills::full, (mill, n) -> mill.known(0, asked, 900, n[0], n[1]), new int[][] {{0, MAX, 5}, {0, 99, 1}});
            Twins.illegal("tomorrow", Mills::empty, mill -> mill.known(0, asked, 900, 5, 1));
        }
    }

    /** NONE: no place is OFF. */
    private static void nothingKnown() {
        int[] due = {0, 0, -1, 0};
        for (int what = 0; what <= 3; what++) {
            int asked = what;
            Twins.asks("of no reading " + what, Mills::empty, mill -> mill.known(0, asked, 900, 0, 0), due[what]);
            Twins.asks("of a coil without readings " + what, Mills::full, mill -> mill.known(5, asked, 900, 0, 99), due[what]);
        }
    }

    private static void allPlacesKnown() {
        RollMill mill = new RollMill();
        for (int place = 0; place < 40; place++) {
            mill.reading(9, place, 60_000);
        }
        Check.same("forty places", mill.known(9, 0, 1, 0, 0), 40);
        Check.same("their sum", mill.known(9, 1, 1, 0, 0), 2_400_000);
        Check.same("the first one is off", mill.known(9, 2, 1, 59_998, 0), 0);
        Check.same("all are off", mill.known(9, 3, 1, 59_998, 0), 40);
        Check.none("none is off", mill.known(9, 2, 1, 59_999, 0));
        mill.reading(9, 39, 59_999);
        Check.same("the last place", mill.known(9, 2, 60_000, 0, 0), 39);
        mill.reading(9, 0, 59_999);
        Check.same("the least place", mill.known(9, 2, 60_000, 0, 0), 0);
        Check.same("two of them", mill.known(9, 3, 60_000, 0, 0), 2);
    }

    /** A READING of the least thickness counts as any. */
    private static void leastThickness() {
        RollMill mill = new RollMill();
        mill.reading(3, 0, 500);
        mill.reading(3, 0, 1);
        mill.reading(3, 1, 1);
        Check.same("both places", mill.known(3, 0, 0, 0, 0), 2);
        Check.same("also if they are not off", mill.known(3, 0, 1, 0, 0), 2);
        Check.same("1 and 1", mill.known(3, 1, 0, 0, 0), 2);
        Check.same("off 3 by 2", mill.known(3, 2, 3, 1, 0), 0);
        Check.same("both are off", mill.known(3, 3, 3, 1, 0), 2);
        Check.none("just not off", mill.known(3, 2, 3, 2, 0));
        Check.same("none is", mill.known(3, 3, 3, 2, 0), 0);
    }

    /** OFF a thickness by more than e. */
    private static void offByMoreThanE() {
        RollMill mill = new RollMill();
        mill.reading(0, 5, 1000);
        for (int off = -3; off <= 3; off++) {
            for (int e = 0; e <= 4; e++) {
                Check.same("off by " + off + ", e " + e, mill.known(0, 3, 1000 + off, e, 0), Math.abs(off) > e ? 1 : 0);
                Check.same("its place", mill.known(0, 2, 1000 + off, e, 0), Math.abs(off) > e ? 5 : -1);
            }
        }
    }

    /** No bounds are told for the thickness; as ints the difference would wrap. */
    private static void offAnyThickness() {
        RollMill mill = new RollMill();
        mill.reading(0, 5, 1000);
        Check.same("far below", mill.known(0, 3, MIN, MAX, 0), 1);
        Check.same("just the greatest e below", mill.known(0, 3, 1000 - MAX, MAX, 0), 0);
        Check.same("one more", mill.known(0, 3, 1000 - MAX - 1, MAX, 0), 1);
        Check.same("far above", mill.known(0, 3, MAX, MAX - 1000, 0), 0);
        Check.same("one more", mill.known(0, 3, MAX, MAX - 1001, 0), 1);
        Check.same("0", mill.known(0, 3, 0, 999, 0), 1);
        Check.same("0, just no more", mill.known(0, 3, 0, 1000, 0), 0);
    }

    /** Promise 32: NoSuchElementException, another what. */
    private static void countEdges() {
        for (int what : new int[] {-1, 8, MIN, MAX}) {
            Twins.noSuch("count " + what, Mills::empty, mill -> mill.count(what));
            Twins.noSuch("count " + what, Mills::full, mill -> mill.count(what));
        }
        int[] some = {2, 2, 2, 3, 3, 3, 4, 20};
        int[] full = {99, 5, 10, 40, 12, 9, 100, 400};
        for (int what = 0; what < 8; what++) {
            int asked = what;
            Twins.asks("none of " + what, Mills::empty, mill -> mill.count(asked), 0);
            Twins.asks("some of " + what, Mills::some, mill -> mill.count(asked), some[what]);
            Twins.asks("all of " + what, Mills::full, mill -> mill.count(asked), full[what]);
        }
    }
}
