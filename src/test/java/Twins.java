import java.util.function.Supplier;
import java.util.function.ToLongFunction;

/** Calls at a mill that must stay like its twin, which was told all but that call. */
final class Twins {
    /** A call of numbers that each have a least and a most. */
    interface Told {
        long at(RollMill mill, int[] numbers);
    }

    private Twins() {
    }

    static void none(String what, Supplier<RollMill> made, ToLongFunction<RollMill> call) {
        RollMill mill = made.get();
        Check.none(what, call.applyAsLong(mill));
        unchanged(what, mill, made);
    }

    static void noSuch(String what, Supplier<RollMill> made, ToLongFunction<RollMill> call) {
        RollMill mill = made.get();
        Check.noSuch(what, () -> call.applyAsLong(mill));
        unchanged(what, mill, made);
    }

    static void illegal(String what, Supplier<RollMill> made, ToLongFunction<RollMill> call) {
        RollMill mill = made.get();
        Check.illegal(what, () -> call.applyAsLong(mill));
        unchanged(what, mill, made);
    }

    /** A call that only asks. */
    static void asks(String what, Supplier<RollMill> made, ToLongFunction<RollMill> call, long due) {
        RollMill mill = made.get();
        Check.same(what, call.applyAsLong(mill), due);
        unchanged(what, mill, made);
    }

    /** Each number by itself beyond its edges is refused by NONE, and taken at them. */
    static void noneBeyond(String what, Supplier<RollMill> made, Told call, int[][] edges) {
        for (int i = 0; i < edges.length; i++) {
            for (int beyond : beyond(edges[i])) {
                int[] numbers = with(edges, i, beyond);
                none(what + ", number " + i + " is " + beyond, made, mill -> call.at(mill, numbers));
            }
            for (int edge : new int[] {edges[i][0], edges[i][1]}) {
                boolean taken = call.at(made.get(), with(edges, i, edge)) != RollMill.NONE;
                Check.holds(what + ", number " + i + " is " + edge + ": taken", taken);
            }
        }
    }

    /** Each number by itself beyond its edges is refused by IllegalArgumentException, and taken at them. */
    static void illegalBeyond(String what, Supplier<RollMill> made, Told call, int[][] edges) {
        for (int i = 0; i < edges.length; i++) {
            for (int beyond : beyond(edges[i])) {
                int[] numbers = with(edges, i, beyond);
                illegal(what + ", number " + i + " is " + beyond, made, mill -> call.at(mill, numbers));
            }
            for (int edge : new int[] {edges[i][0], edges[i][1]}) {
                int[] numbers = with(edges, i, edge);
                Check.quiet(what + ", number " + i + " is " + edge, () -> call.at(made.get(), numbers));
            }
        }
    }

    /** The numbers told plainly but for one; of each are told its least, its most, a plain one. */
    private static int[] with(int[][] edges, int which, int number) {
        int[] numbers = new int[edges.length];
        for (int i = 0; i < edges.length; i++) {
            numbers[i] = i == which ? number : edges[i][2];
        }
        return numbers;
    }

    private static int[] beyond(int[] edge) {
        if (edge[1] == Integer.MAX_VALUE) {
            return new int[] {edge[0] - 1, Integer.MIN_VALUE};
        }
        return new int[] {edge[0] - 1, edge[1] + 1, Integer.MIN_VALUE, Integer.MAX_VALUE};
    }

    private static void unchanged(String what, RollMill mill, Supplier<RollMill> made) {
        Check.holds(what + ": nothing changes", Seen.of(mill).equals(Seen.of(made.get())));
    }
}
