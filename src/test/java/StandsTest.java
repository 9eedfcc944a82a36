import java.util.Random;

/** Promises 1 to 8: the new object, stands, the bite law. */
public final class StandsTest {
    public static void main(String[] args) {
        newObject();
        standsAndTheirEdges();
        points();
        pressOnTheLines();
        bites();
        bitesAgainstEveryThickness();
        wornStand();
        gaps();
        changes();
        Check.end("StandsTest");
    }

    static RollMill oneStand() {
        RollMill mill = new RollMill();
        mill.stand(100, 5000, 100, 3000, 50, 10, 1000, 2);
        return mill;
    }

    private static void newObject() {
        RollMill mill = new RollMill();
        for (int what = 0; what <= 7; what++) {
            Check.same("count " + what + " of a new mill", mill.count(what), 0);
        }
        Check.none("NONE", -1);
        Check.none("fault of a new mill", mill.fault());
        Check.noSuch("ran of a new mill", () -> mill.ran(0));
        Check.noSuch("planned of a new mill", () -> mill.planned(0, 0));
        Check.noSuch("standOf of a new mill", () -> mill.standOf(0, 0));
    }

    private static void standsAndTheirEdges() {
        int[] least = {1, 1, 0, 0, 1, 1, 100, 0};
        int[] most = {999, 9_999_999, 60_000, 60_000, 60_000, 999, 4000, 9};
        int[] plain = {100, 5000, 0, 60_000, 50, 10, 1000, 2};
        for (int i = 0; i < 8; i++) {
            int[] told = plain.clone();
            told[i] = least[i];
            Check.same("number " + i + " at its least", add(new RollMill(), told), 0);
            told[i] = least[i] - 1;
            Check.none("number " + i + " below its least", add(new RollMill(), told));
            told[i] = most[i];
            Check.same("number " + i + " at its most", add(new RollMill(), told), 0);
            told[i] = most[i] + 1;
            Check.none("number " + i + " above its most", add(new RollMill(), told));
        }
        Check.same("high as low", add(new RollMill(), new int[] {1, 1, 7, 7, 1, 1, 100, 0}), 0);
        Check.none("high below low", add(new RollMill(), new int[] {1, 1, 7, 6, 1, 1, 100, 0}));
        RollMill mill = new RollMill();
        for (int i = 0; i < 5; i++) {
            Check.same("stand " + i, add(mill, plain), i);
            Check.same("how many stands", mill.count(1), i + 1);
        }
        Check.none("a sixth stand", add(mill, plain));
        Check.same("stands then", mill.count(1), 5);
        Check.same("gap at first", mill.standOf(4, 0), 60_000);
        Check.same("wear at first", mill.standOf(4, 1), 0);
        Check.same("changes at first", mill.standOf(4, 2), 0);
    }

    private static int add(RollMill mill, int[] n) {
        return mill.stand(n[0], n[1], n[2], n[3], n[4], n[5], n[6], n[7]);
    }

    private static void points() {
        RollMill mill = new RollMill();
        Check.none("draft 0", mill.point(0, 5));
        Check.none("press 0", mill.point(5, 0));
        Check.none("draft 60001", mill.point(60_001, 5));
        Check.none("press 100000", mill.point(5, 100_000));
        Check.none("draft below all", mill.point(Integer.MIN_VALUE, 5));
        for (int i = 1; i <= 9; i++) {
            Check.same("point", mill.point(10 * i, 100 * i), i);
        }
        Check.none("draft as ahead", mill.point(90, 901));
        Check.none("press as ahead", mill.point(91, 900));
        Check.same("the tenth", mill.point(91, 901), 10);
        Check.none("the eleventh", mill.point(60_000, 99_999));
        Check.same("points", mill.count(2), 10);
        Check.same("the greatest point", new RollMill().point(60_000, 99_999), 1);
    }

    private static void pressOnTheLines() {
        RollMill mill = new RollMill();
        Check.same("press without points", mill.press(60_000, 99), 0);
        mill.point(100, 1000);
        Check.same("behind the only point", mill.press(200, 10), 2000);
        mill.point(300, 2001);
        Check.same("at 0", mill.press(0, 99), 0);
        Check.same("on the first line", mill.press(33, 7), 231);
        Check.same("at the first point", mill.press(100, 10), 1000);
        Check.same("cut down on the line", mill.press(101, 10), 1005);
        Check.same("cut down once more", mill.press(101, 1), 100);
        Check.same("cut down ahead of times h", mill.press(199, 99), 1495 * 99 / 10);
        Check.same("at the last point", mill.press(300, 10), 2001);
        Check.same("behind the last one", mill.press(501, 10), 1000 + 401 * 1001 / 200);
        Check.illegal("x below 0", () -> mill.press(-1, 10));
        Check.illegal("x above 60000", () -> mill.press(60_001, 10));
        Check.illegal("h 0", () -> mill.press(1, 0));
        Check.illegal("h 100", () -> mill.press(1, 100));
        RollMill steep = new RollMill();
        steep.point(1, 1);
        steep.point(2, 99_999);
        Check.same("far up", steep.press(1010, 10), 1 + 1009L * 99_998);
        Check.same("at most", steep.press(60_000, 99), 999_999_999);
    }

    private static void bites() {
        RollMill mill = oneStand();
        mill.point(100, 1000);
        mill.point(300, 2000);
        mill.gap(0, 900);
        Check.same("out", mill.bite(0, 1000, 10, 0), 910);
        Check.same("press", mill.bite(0, 1000, 10, 1), 900);
        Check.same("open: out", mill.bite(0, 900, 10, 0), 900);
        Check.same("open: press", mill.bite(0, 900, 10, 1), 0);
        Check.same("hardly open no more", mill.bite(0, 901, 10, 0), 901);
        Check.noSuch("stand 1", () -> mill.bite(1, 1000, 10, 0));
        Check.noSuch("stand -1", () -> mill.bite(-1, 1000, 10, 0));
        Check.noSuch("what 2", () -> mill.bite(0, 1000, 10, 2));
        Check.noSuch("what -1, and no thickness", () -> mill.bite(0, 0, 10, -1));
        Check.illegal("in 0", () -> mill.bite(0, 0, 10, 0));
        Check.illegal("in 60001", () -> mill.bite(0, 60_001, 10, 0));
        Check.illegal("h 0", () -> mill.bite(0, 1000, 0, 0));
        Check.illegal("h 100", () -> mill.bite(0, 1000, 100, 0));
        RollMill bare = new RollMill();
        bare.stand(1, 1, 0, 10, 1, 1, 100, 0);
        bare.gap(0, 0);
        Check.same("without points it goes out as the gap is, from 1 up", bare.bite(0, 60_000, 99, 0), 1);
    }

    private static void bitesAgainstEveryThickness() {
        Random random = new Random(7);
        for (int round = 0; round < 300; round++) {
            RollMill mill = new RollMill();
            int stiffness = 1 + random.nextInt(round % 2 == 0 ? 999 : 20);
            mill.stand(stiffness, 9_999_999, 0, 60_000, 1, 1, 100, 0);
            SlowLaw law = new SlowLaw(random, round % 11, 60, 200);
            law.tell(mill);
            int gap = random.nextInt(600);
            mill.gap(0, gap);
            int in = 1 + random.nextInt(700);
            int h = 1 + random.nextInt(99);
            int due = law.bite(stiffness, gap, in, h);
            Check.same("out, gap " + gap + ", in " + in, mill.bite(0, in, h, 0), due);
            Check.same("its press", mill.bite(0, in, h, 1), law.press(in - due, h));
            int x = random.nextInt(1000);
            Check.same("press of " + x, mill.press(x, h), law.press(x, h));
        }
    }

    /** A stand that wears by 3 in thousand with each segment. */
    static RollMill wearing() {
        RollMill mill = new RollMill();
        mill.stand(1, 9_999_999, 0, 100, 1, 1, 100, 0);
        mill.point(1, 6000);
        mill.gap(0, 0);
        for (int i = 0; i < 40; i++) {
            mill.segment(60_000, 10);
        }
        return mill;
    }

    private static void wornStand() {
        RollMill mill = wearing();
        int fresh = mill.bite(0, 60_000, 10, 0);
        Check.same("out of a new roll", fresh, 59_991);
        int press = mill.press(9, 10);
        Check.same("its press", mill.bite(0, 60_000, 10, 1), press);
        mill.run(60_000);
        Check.same("wear by a hundredth of the press", mill.standOf(0, 1), 40 * (press / 100));
        mill.run(60_000);
        int worn = mill.standOf(0, 1);
        Check.holds("worn by some whole thickness", worn / 1000 >= 20);
        int out = mill.bite(0, 500, 1, 0);
        int due = 500;
        while (due > 1 && (due - 1 - worn / 1000) >= mill.press(500 - due + 1, 1)) {
            due--;
        }
        Check.same("the worn roll's gap is wider", out, due);
        Check.same("open by its wear alone", mill.bite(0, worn / 1000, 99, 1), 0);
        Check.same("its wear is told", mill.change(0), worn);
        Check.same("not open without it", mill.bite(0, 1000, 1, 0) < 1000 ? 1 : 0, 1);
    }

    private static void gaps() {
        RollMill mill = oneStand();
        Check.same("the gap was high", mill.gap(0, 100), 3000);
        Check.same("the gap was low", mill.gap(0, 3000), 100);
        Check.illegal("below low", () -> mill.gap(0, 99));
        Check.illegal("above high", () -> mill.gap(0, 3001));
        Check.same("it stayed", mill.standOf(0, 0), 3000);
        Check.noSuch("stand 1", () -> mill.gap(1, 99));
        Check.noSuch("stand -1", () -> mill.gap(-1, 500));
    }

    private static void changes() {
        RollMill mill = wearing();
        mill.run(1);
        int worn = mill.standOf(0, 1);
        Check.holds("it wore", worn > 0);
        Check.same("wear till then", mill.change(0), worn);
        Check.same("wear then", mill.standOf(0, 1), 0);
        Check.same("changed once", mill.standOf(0, 2), 1);
        Check.same("nothing worn", mill.change(0), 0);
        Check.same("changed twice", mill.standOf(0, 2), 2);
        Check.noSuch("change of stand 1", () -> mill.change(1));
        Check.noSuch("standOf of stand 1", () -> mill.standOf(1, 0));
        Check.noSuch("standOf -1", () -> mill.standOf(0, -1));
        Check.noSuch("standOf 3", () -> mill.standOf(0, 3));
    }
}
