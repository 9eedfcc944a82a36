import java.util.Random;

/** Promises 9 to 11: the tape, rules, faults; what an expression is worth. */
public final class RulesTest {
    public static void main(String[] args) {
        tape();
        tapeIsTaken();
        highestByteFirst();
        goodTexts();
        faultsOfTokens();
        faultsOfTooMuch();
        faultsOfWords();
        faultsOfStands();
        faultKeepsWhatWasTold();
        worth();
        worthOfRandomExpressions();
        valuesOfATick();
        clausesInOrder();
        rulesOverAndOver();
        Check.end("RulesTest");
    }

    private static RollMill mill() {
        RollMill mill = new RollMill();
        mill.stand(999, 9_999_999, 0, 60_000, 60_000, 1, 100, 0);
        mill.stand(999, 9_999_999, 0, 60_000, 60_000, 1, 100, 0);
        return mill;
    }

    private static void tape() {
        RollMill mill = new RollMill();
        for (int i = 1; i <= 20; i++) {
            Check.same("fed", mill.feed(0, -1, 7, 8, 9), 20 * i);
        }
        Check.none("a full tape", mill.feed(0, 0, 0, 0, 0));
        Check.same("bytes", mill.count(7), 400);
        Check.illegal("401 bytes", () -> mill.rules(401));
        Check.illegal("-1 bytes", () -> mill.rules(-1));
        Check.illegal("far below", () -> mill.rules(Integer.MIN_VALUE));
        Check.same("nothing changed", mill.count(7), 400);
        Check.same("byte 0 is no token", mill.rules(400), 1);
        Check.same("at its place", mill.fault(), 0);
    }

    private static void tapeIsTaken() {
        RollMill mill = mill();
        Check.feedText(mill, "late 3;                  ");
        Check.same("rules of the first bytes", mill.rules(7), 0);
        Check.same("the tape is empty", mill.count(7), 0);
        Check.illegal("one byte of an empty tape", () -> mill.rules(1));
        Check.same("none of an empty tape", mill.rules(0), 0);
        Check.none("no fault", mill.fault());
        Check.same("a fault", Check.rules(mill, "x"), 1);
        Check.same("the tape is empty behind a fault, too", mill.count(7), 0);
        Check.illegal("too many", () -> mill.rules(1));
        Check.same("the latest fault stays told", mill.fault(), 0);
        Check.same("good again", Check.rules(mill, ""), 0);
        Check.none("then there is none", mill.fault());
    }

    private static void highestByteFirst() {
        RollMill mill = mill();
        mill.feed(0x6c617465, 0x20203920, 0x3b204120, 0xff202020, 0x20202020);
        Check.same("late  9 ; A", mill.rules(20), 1);
        Check.same("the A", mill.fault(), 10);
        mill.feed(0x20202020, 0x20202020, 0x20202020, 0x20202020, 0x202020ff);
        Check.same("a byte above 127", mill.rules(20), 1);
        Check.same("the last one of 20", mill.fault(), 19);
    }

    private static void goodTexts() {
        String[] texts = {
            "", " \n ", "late 0;", "late 9;drift 99999;tear 00000;loop 1;", "stand0gap5;", "stand 1 gap gap unless in;",
            "stand\n00001\ngap\nnot not not not not not 5;", "stand 0 gap ((((( 5 )))));",
            "stand 0 gap (((((5))))) unless (((((5)))));", "stand 0 gap 1<2 and 3=4 or not(5)<6;",
            "stand 0 gap in+out-press*gauge/aim+tick+wear+pull+hard;", "stand 0 gap not not not not not not(not 1);",
            "stand 0 gap not 1 or not not not not not not 1;", "stand 0 gap (1)+(2)*(3);",
            "late 1;late 1;late 1;late 1;late 1;late 1;late 1;late 1;late 1;late 1;late 1;late 1; ",
        };
        for (String text : texts) {
            RollMill mill = mill();
            Check.same(text, Check.rules(mill, text), 0);
            Check.none(text, mill.fault());
        }
    }

    private static void due(String text, int fault, int place) {
        RollMill mill = mill();
        Check.same("fault of " + text, Check.rules(mill, text), fault);
        Check.same("place of " + text, mill.fault(), place);
    }

    private static void faultsOfTokens() {
        due(";", 1, 0);
        due(" foo", 1, 1);
        due("gap", 1, 0);
        due("7", 1, 0);
        due("Late 1;", 1, 0);
        due("late\t1;", 1, 4);
        due("late", 1, 4);
        due("late  ", 1, 6);
        due("late 1", 1, 6);
        due("late 1 1;", 1, 7);
        due("late -1;", 1, 5);
        due("late x;", 1, 5);
        due("late1;latex;", 1, 6);
        due("stand", 1, 5);
        due("stand x gap 1;", 1, 6);
        due("stand (0) gap 1;", 1, 6);
        due("stand 0 1;", 1, 8);
        due("stand 0 gapx 1;", 1, 8);
        due("stand 0 gap ;", 1, 12);
        due("stand 0 gap", 1, 11);
        due("stand 0 gap 1", 1, 13);
        due("stand 0 gap 1 2;", 1, 14);
        due("stand 0 gap 1 in;", 1, 14);
        due("stand 0 gap 1 not;", 1, 14);
        due("stand 0 gap 1);", 1, 13);
        due("stand 0 gap (1;", 1, 14);
        due("stand 0 gap ();", 1, 13);
        due("stand 0 gap -1;", 1, 12);
        due("stand 0 gap 1+;", 1, 14);
        due("stand 0 gap 1*+2;", 1, 14);
        due("stand 0 gap 1<2<3;", 1, 15);
        due("stand 0 gap 1<2=3;", 1, 15);
        due("stand 0 gap 1>2;", 1, 13);
        due("stand 0 gap 1 unless;", 1, 20);
        due("stand 0 gap 1 unless 1 unless 2;", 1, 23);
        due("stand 0 gap 1 unless 1", 1, 22);
        due("stand 0 gap 1,", 1, 13);
        due("stand 0 gap 5.", 1, 13);
        due("stand 0 gap 1:2", 1, 13);
        due("drift 5 ; ~", 1, 10);
        due("late 1; 123456;", 1, 8);
        due("late 1 123456;", 1, 7);
    }

    private static void faultsOfTooMuch() {
        due("late 10;", 2, 5);
        due("late 99999;", 2, 5);
        due("late 000009;", 2, 5);
        due("drift 100000;", 2, 6);
        due("tear 99999999999999999999;", 2, 5);
        due("loop 000001", 2, 5);
        due("stand 000000 gap 1;", 2, 6);
        due("stand 999999 gap 1;", 2, 6);
        due("stand 0 gap 123456;", 2, 12);
        due("stand 0 gap 1+ 000000;", 2, 15);
        String twelve = "late 1;late 1;late 1;late 1;late 1;late 1;late 1;late 1;late 1;late 1;late 1;late 1;";
        due(twelve + " loop 1;", 2, 85);
        due(twelve + " stand", 2, 85);
        due(twelve + "foo", 1, 84);
        due(twelve + ";", 1, 84);
        due(twelve + "A", 1, 84);
        due("stand 0 gap ((((((1))))));", 2, 18);
        due("stand 0 gap (((((( in))))));", 2, 19);
        due("stand 0 gap ((((((foo))))));", 2, 18);
        due("stand 0 gap ((((((unless))))));", 2, 18);
        due("stand 0 gap ((((((not 1))))));", 2, 18);
        due("stand 0 gap (((((((1)))))));", 2, 18);
        due("stand 0 gap ((((((123456;", 2, 18);
        due("stand 0 gap (((((();", 1, 18);
        due("stand 0 gap ((((((-1;", 1, 18);
        due("stand 0 gap ((((((", 1, 18);
        due("stand 0 gap ((((((A", 1, 18);
        due("stand 0 gap 1 unless 1+(2*((((( 3", 2, 32);
        due("stand 0 gap (((((1)))))+((((((2", 2, 30);
        due("stand 0 gap not not not not not not not 1;", 2, 36);
        due("stand 0 gap not not not not not not not not", 2, 36);
        due("stand 0 gap 1 and not not not not not not not", 2, 42);
        due("stand 0 gap (not not not not not not not", 2, 37);
    }

    private static void faultsOfWords() {
        due("stand 0 gap foo;", 3, 12);
        due("stand 0 gap gapx;", 3, 12);
        due("stand 0 gap stand;", 3, 12);
        due("stand 0 gap and;", 3, 12);
        due("stand 0 gap unless 1;", 3, 12);
        due("stand 0 gap 1 + not 1;", 3, 16);
        due("stand 0 gap 1 < not 1;", 3, 16);
        due("stand 0 gap not late;", 3, 16);
        due("stand 0 gap 1 or or 1;", 3, 17);
        due("stand 0 gap (x);", 3, 13);
        due("stand 0 gap 1 unless notin;", 3, 21);
        due("stand 0 gap i;", 3, 12);
        due("stand 0 gap inn;", 3, 12);
    }

    private static void faultsOfStands() {
        due("stand 2 gap 1;", 4, 6);
        due("stand 99999 gap", 4, 6);
        due("stand 1 gap 1; stand 00005", 4, 21);
        RollMill none = new RollMill();
        Check.same("no stand at all", Check.rules(none, "stand 0 gap 1;"), 4);
        none.stand(999, 9_999_999, 0, 60_000, 60_000, 1, 100, 0);
        Check.same("now there is", Check.rules(none, "stand 0 gap 1;"), 0);
    }

    private static void faultKeepsWhatWasTold() {
        RollMill mill = mill();
        mill.segment(100, 1);
        Check.same("told", Check.rules(mill, "stand 0 gap 777; drift 50;"), 0);
        Check.same("a fault at the end", Check.rules(mill, "stand 0 gap 888; drift 1; late 5"), 1);
        mill.run(100);
        Check.same("gap by what was told ahead", mill.standOf(0, 0), 777);
        Check.same("gauge, too", mill.gauge(1), 105);
        Check.same("told anew", Check.rules(mill, "tear 5;"), 0);
        mill.gap(0, 5000);
        mill.run(100);
        Check.same("no clause any more", mill.standOf(0, 0), 5000);
        Check.same("no drift any more", mill.gauge(1), 100);
    }

    /** What an expression gives, in whole numbers from 0 to 60000. */
    private static int worthOf(String text) {
        RollMill mill = new RollMill();
        mill.stand(999, 9_999_999, 0, 60_000, 60_000, 7, 100, 0);
        mill.segment(1234, 56);
        mill.gap(0, 2000);
        Check.same(text, Check.rules(mill, "stand 0 gap " + text + ";"), 0);
        Check.same(text, mill.run(4321), 0);
        return mill.standOf(0, 0);
    }

    private static void worth() {
        String[] texts = {
            "7", "99999", "0-5", "1+2*3", "(1+2)*3", "10-3-2", "100/7*7", "100*7/8", "7/0", "0-7/2+10", "(0-7)/2+10",
            "not 0", "not 5", "not not 5", "not 1<2", "1<2", "2<1", "2<2", "2=2", "2=3", "5 or 0", "0 or 0", "5 and 7",
            "5 and 0", "1 or 1 and 0", "(1 or 1) and 0", "not 0 and 0", "not (0 and 0)", "(5)", "5=5+1", "1+(2=2)*3",
            "1<2 and 2<3 or 0", "99999*99999/99999", "99999*30000/50000+99999", "0-99999*99999/99999+20000",
            "gap", "gap+1", "in", "out", "press", "gauge", "aim", "tick", "wear", "pull", "hard", "gap-in+hard*2",
        };
        int[] due = {
            7, 60_000, 0, 7, 9, 5, 98, 87, 0, 7, 7,
            1, 0, 1, 0, 1, 0, 0, 1, 0, 1, 0, 1,
            0, 1, 0, 0, 1, 5, 0, 4,
            1, 14098, 60_000, 5902,
            2000, 2001, 1234, 1234, 0, 1234, 4321, 0, 0, 0, 56, 2000 - 1234 + 112,
        };
        for (int i = 0; i < texts.length; i++) {
            Check.same("worth of " + texts[i], worthOf(texts[i]), due[i]);
        }
    }

    private static final class Told {
        final String text;
        final int worth;

        Told(String text, int worth) {
            this.text = text;
            this.worth = worth;
        }
    }

    /** As deep as the text may be: each kind in parentheses where it must. */
    private static Told random(Random random, int parentheses, int size) {
        if (size < 2) {
            int number = random.nextInt(4) == 0 ? random.nextInt(100_000) : random.nextInt(12);
            return new Told("" + number, number);
        }
        Told a = inParentheses(random, parentheses, size / 2);
        if (random.nextInt(6) == 0) {
            return new Told("not " + a.text, a.worth == 0 ? 1 : 0);
        }
        Told b = inParentheses(random, parentheses, size / 2);
        switch (random.nextInt(8)) {
            case 0:
                return new Told(a.text + "+" + b.text, a.worth + b.worth);
            case 1:
                return new Told(a.text + " - " + b.text, a.worth - b.worth);
            case 2:
                return new Told(a.text + "*\n" + b.text, a.worth * b.worth);
            case 3:
                return new Told(a.text + "/" + b.text, b.worth == 0 ? 0 : a.worth / b.worth);
            case 4:
                return new Told(a.text + "<" + b.text, a.worth < b.worth ? 1 : 0);
            case 5:
                return new Told(a.text + " =" + b.text, a.worth == b.worth ? 1 : 0);
            case 6:
                return new Told(a.text + " and " + b.text, a.worth != 0 && b.worth != 0 ? 1 : 0);
            default:
                return new Told(a.text + "or " + b.text, a.worth != 0 || b.worth != 0 ? 1 : 0);
        }
    }

    private static Told inParentheses(Random random, int parentheses, int size) {
        if (parentheses < 1 || size < 2) {
            return random(random, 0, 1);
        }
        Told told = random(random, parentheses - 1, size);
        return new Told("(" + told.text + ")", told.worth);
    }

    private static void worthOfRandomExpressions() {
        Random random = new Random(11);
        for (int round = 0; round < 2000; round++) {
            Told told = random(random, 4, 1 << random.nextInt(6));
            if (told.text.length() < 300) {
                Check.same("worth of " + told.text, worthOf(told.text), Math.max(0, Math.min(60_000, told.worth)));
                Check.same("less of " + told.text, worthOf("0-(" + told.text + ")"), Math.max(0, Math.min(60_000, -told.worth)));
            }
        }
    }

    private static void valuesOfATick() {
        RollMill mill = new RollMill();
        mill.stand(10, 9_999_999, 0, 60_000, 60_000, 100, 100, 3);
        mill.stand(10, 9_999_999, 0, 60_000, 60_000, 101, 100, 3);
        mill.point(1, 1000);
        mill.segment(1000, 20);
        mill.segment(1000, 20);
        mill.gap(0, 0);
        mill.gap(1, 0);
        Check.same("values of stand 1 where it bit", Check.rules(mill,
                "stand 1 gap 3000+hard unless tick<2 or tick=2 and not (in=gauge and 0);late 1;"), 0);
        mill.run(5);
        Check.same("stand 1 stayed in its last tick", mill.standOf(1, 0), 0);
        Check.same("press in tick 0 and wear behind it", Check.rules(mill,
                "stand 0 gap press+wear unless 0<tick; stand 1 gap hard*100+tick unless tick<1;"), 0);
        mill.change(0);
        mill.gap(0, 0);
        int press = mill.bite(0, 1000, 20, 1);
        mill.run(5);
        Check.same("gap of stand 0", mill.standOf(0, 0), Math.min(60_000, press + press / 100 / 1000));
        Check.same("hard of stand 1 by the water", mill.standOf(1, 0), 2302);
        pullAndRest();
    }

    private static void pullAndRest() {
        RollMill mill = new RollMill();
        mill.stand(999, 9_999_999, 0, 60_000, 60_000, 10, 100, 0);
        mill.stand(999, 9_999_999, 0, 60_000, 60_000, 30, 100, 0);
        mill.segment(1000, 5);
        mill.segment(1000, 5);
        String text = "stand 0 gap pull*100+in unless not(tick=1); stand 1 gap 50+pull+in+out+press+hard unless not(tick=0);";
        Check.same("told", Check.rules(mill, text), 0);
        mill.run(7);
        Check.same("pull behind stand 0, it bit", mill.standOf(0, 0), 3000);
        Check.same("all 0 of stand 1, it bit not", mill.standOf(1, 0), 50);
        RollMill rested = new RollMill();
        rested.stand(10, 9_999_999, 0, 60_000, 60_000, 10, 100, 0);
        rested.stand(10, 9_999_999, 0, 60_000, 60_000, 30, 100, 0);
        rested.point(1, 1000);
        rested.segment(1000, 5);
        rested.gap(0, 0);
        Check.rules(rested, "stand 0 gap 50+in+out*2+press*3+hard*4+pull*5 unless tick=0;");
        rested.run(5);
        Check.holds("stand 0 pressed", rested.ran(2) > 0);
        Check.same("all 0 of stand 0, when it bites no more", rested.standOf(0, 0), 50);
    }

    private static void rulesOverAndOver() {
        RollMill mill = mill();
        mill.segment(1000, 5);
        mill.segment(1000, 5);
        String sum = "1+1+1+1+1+1+1+1+1+1+1+1+1+1+1+1+1+1+1+1";
        for (int i = 0; i < 20; i++) {
            Check.same("rules", Check.rules(mill, "drift 50; late 1; stand 0 gap " + sum + "+" + i + ";"), 0);
            Check.same("a fault", Check.rules(mill, "late 9; drift 7; stand 1 gap 77; tear 0; loop 0; stand 0 gap 5"), 1);
            mill.run(5);
            Check.same("gap", mill.standOf(0, 0), 20 + i);
            Check.same("gap without a clause", mill.standOf(1, 0), 60_000);
            Check.same("gauge", mill.gauge(2), 1010);
            Check.same("none", Check.rules(mill, ""), 0);
            mill.gap(0, 60_000);
            mill.run(5);
            Check.same("gap", mill.standOf(0, 0), 60_000);
            Check.same("gauge", mill.gauge(2), 1000);
        }
    }

    private static void clausesInOrder() {
        RollMill mill = new RollMill();
        mill.stand(999, 9_999_999, 100, 50_000, 60_000, 1, 100, 0);
        mill.stand(999, 9_999_999, 0, 60_000, 10, 1, 100, 0);
        mill.segment(1000, 5);
        mill.gap(1, 1000);
        mill.gap(0, 5000);
        Check.rules(mill, "stand 1 gap 5; stand 0 gap 200 unless aim < 50; stand 0 gap 300 unless 40 < aim; stand 0 gap 400;");
        mill.run(100);
        Check.same("the first one", mill.standOf(0, 0), 200);
        Check.same("as far as screws go, twice", mill.standOf(1, 0), 980);
        mill.run(30);
        Check.same("the second one", mill.standOf(0, 0), 300);
        mill.run(45);
        Check.same("the third one", mill.standOf(0, 0), 400);
        Check.same("thrice", mill.gap(1, 958), 940);
        Check.rules(mill, "stand 0 gap 0-9; stand 1 gap 965;");
        mill.run(45);
        Check.same("within low", mill.standOf(0, 0), 100);
        Check.same("not farther than wanted", mill.standOf(1, 0), 965);
        Check.rules(mill, "stand 0 gap 99999; stand 1 gap 2000000000;");
        Check.same("ten digits are too many", mill.fault(), 31);
        Check.rules(mill, "stand 0 gap 30000*50000+99999*3000; stand 1 gap 0-(30000*50000+99999*6400);");
        mill.run(45);
        Check.same("within high", mill.standOf(0, 0), 50_000);
        Check.same("far below", mill.standOf(1, 0), 945);
    }
}
