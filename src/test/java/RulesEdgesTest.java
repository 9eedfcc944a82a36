/** Promises 9 to 11 and the text of RULES at their edges, sentence by sentence. */
public final class RulesEdgesTest {
    private static final int MIN = Integer.MIN_VALUE;
    private static final int MAX = Integer.MAX_VALUE;
    private static final String[] VALUES = {"gap", "in", "out", "press", "gauge", "aim", "tick", "wear", "pull", "hard"};
    private static final String[] NO_VALUES = {"and", "or", "unless", "stand", "late", "drift", "tear", "loop", "a", "z", "gaps", "ga"};
    private static final String[] NUMBERS = {"0", "7", "00000", "99999", "123456", "99999999999"};
    private static final String[] SIGNS = {";", ")", "+", "-", "*", "/", "<", "=", "A", "#", "\t", ""};
    private static final int GOOD = 0;
    private static final int CANT_STAND = 1;
    private static final int TOO_MUCH = 2;
    private static final int NO_VALUE = 3;
    private static final int NO_STAND = 4;

    public static void main(String[] args) {
        feedCounts();
        feedBytes();
        rulesOfSoMany();
        tapeIsEmptyThen();
        faultIsTheLatest();
        told400();
        blanks();
        bytesWhereAPartMustStand();
        bytesBehindAPart();
        longestRow();
        endsTooSoon();
        digits();
        twelveClauses();
        expressionWithinOthers();
        notsSideBySide();
        lateAbove9();
        wordsWhereAPartMustStand();
        wordsWhereNoPartMustStand();
        standsThatThereAre();
        firstFaultCounts();
        whatWasToldStays();
        lastOneCounts();
        withoutTearAndLoop();
        eachByItself();
        wrapAround();
        whatHolds();
        Check.end("RulesEdgesTest");
    }

    private static RollMill mill(int stands) {
        RollMill mill = new RollMill();
        for (int i = 0; i < stands; i++) {
            mill.stand(999, 9_999_999, 0, 60_000, 60_000, 10, 100, 0);
        }
        return mill;
    }

    /** With two stands; place -1 of a text without a fault. */
    private static void due(String text, int fault, int place) {
        RollMill mill = mill(2);
        Check.same("fault of " + text, Check.rules(mill, text), fault);
        Check.same("place of " + text, mill.fault(), place);
    }

    private static void good(String text) {
        due(text, GOOD, -1);
    }

    /** Promise 9: how many it has; NONE, and none come, if it would have more than 400. */
    private static void feedCounts() {
        RollMill mill = new RollMill();
        for (int i = 20; i <= 400; i += 20) {
            Check.same("fed", mill.feed(MIN, MAX, 0, -1, 1), i);
            Check.same("counted", mill.count(7), i);
        }
        Check.none("420", mill.feed(0, 0, 0, 0, 0));
        Check.same("none came", mill.count(7), 400);
        Twins.none("a full tape", Mills::full, full -> full.feed(0x20202020, 0x20202020, 0x20202020, 0x20202020, 0x20202020));
        Check.same("behind an emptied tape", mill.rules(0) + mill.feed(0, 0, 0, 0, 0), 20);
    }

    /** Twenty bytes come behind the tape, of each number the highest first. */
    private static void feedBytes() {
        for (int at = 0; at < 40; at++) {
            int[] numbers = new int[10];
            for (int i = 0; i < 10; i++) {
                numbers[i] = 0x20202020;
            }
            numbers[at / 4] ^= (' ' ^ 255) << (24 - at % 4 * 8);
            RollMill mill = mill(0);
            mill.feed(numbers[0], numbers[1], numbers[2], numbers[3], numbers[4]);
            mill.feed(numbers[5], numbers[6], numbers[7], numbers[8], numbers[9]);
            Check.same("byte 255", mill.rules(40), CANT_STAND);
            Check.same("at its place", mill.fault(), at);
        }
        RollMill mill = mill(0);
        mill.feed(MIN, 0, 0, 0, 0);
        Check.same("bytes 128, 0, 0 .. are none", mill.rules(20) + mill.fault(), 1);
        mill.feed(0x20202020, MAX, 0, 0, 0);
        Check.same("byte 127 is none", mill.rules(20) + mill.fault(), 5);
    }

    /** Promise 10: IllegalArgumentException, the tape has not so many, n below 0 (nothing changes). */
    private static void rulesOfSoMany() {
        for (int n : new int[] {-1, MIN, MAX, 401}) {
            Twins.illegal("of nothing", Mills::empty, mill -> mill.rules(n));
            Twins.illegal("of some", Mills::some, mill -> mill.rules(n));
            Twins.illegal("of all", Mills::full, mill -> mill.rules(n));
        }
        Twins.illegal("one of nothing", Mills::empty, mill -> mill.rules(1));
        Twins.illegal("one too many", Mills::some, mill -> mill.rules(21));
        Twins.asks("none of nothing", Mills::empty, mill -> mill.rules(0), 0);
        Check.same("as many as there are", Mills.some().rules(20), 0);
        Check.same("all of a full tape", Mills.full().rules(400), TOO_MUCH);
        RollMill mill = mill(1);
        Check.feedText(mill, "late 1; drift 5x");
        Check.same("the first ones alone are rules", mill.rules(15), CANT_STAND);
        Check.same("they end there", mill.fault(), 15);
        Check.feedText(mill, "late 1; drift 5x");
        Check.same("to the end of a clause", mill.rules(7), GOOD);
        Check.feedText(mill, "late 1; drift 5x");
        Check.same("a word cut", mill.rules(3), CANT_STAND);
        Check.same("at its first byte", mill.fault(), 0);
    }

    /** The tape's first n bytes (it is empty then). */
    private static void tapeIsEmptyThen() {
        int[] many = {0, 1, 7, 20};
        for (int n : many) {
            RollMill mill = mill(1);
            Check.feedText(mill, "late 1; x");
            mill.rules(n);
            Check.same("no bytes behind rules of " + n, mill.count(7), 0);
            Check.illegal("so there is none to tell", () -> mill.rules(1));
            Check.same("the next ones come first", Check.rules(mill, "late 5;"), GOOD);
        }
    }

    /** Promise 11: the place of the latest rules()'s FAULT; NONE without. */
    private static void faultIsTheLatest() {
        RollMill mill = mill(1);
        Check.none("no rules yet", mill.fault());
        Check.same("a fault", Check.rules(mill, "late 1; x"), CANT_STAND);
        Check.same("its place", mill.fault(), 8);
        mill.feed(1, 2, 3, 4, 5);
        Check.same("a tape fed anew", mill.fault(), 8);
        Check.illegal("refused", () -> mill.rules(21));
        Check.same("that told nothing", mill.fault(), 8);
        Check.same("of no bytes", mill.rules(0), GOOD);
        Check.none("without a fault", mill.fault());
        Check.same("at the first byte", Check.rules(mill, "x"), CANT_STAND);
        Check.same("its place", mill.fault(), 0);
        Check.same("another one", Check.rules(mill, "late 1;late 10;"), TOO_MUCH);
        Check.same("its place", mill.fault(), 12);
    }

    /** A text of at most 400 bytes. */
    private static void told400() {
        StringBuilder sum = new StringBuilder("stand 1 gap 1");
        while (sum.length() < 399) {
            sum.append("+1");
        }
        good(sum + ";");
        due(sum + "x", CANT_STAND, 399);
        due(sum + " ", CANT_STAND, 400);
        due(sum + "1", CANT_STAND, 400);
        RollMill mill = mill(2);
        mill.segment(1, 1);
        Check.same("told", Check.rules(mill, sum + ";"), GOOD);
        mill.run(1);
        mill.run(1);
        Check.same("its worth: one for each sign and the first", mill.standOf(1, 0), 1 + (399 - 13) / 2);
        good(" ".repeat(393) + "late 1;");
        good("\n".repeat(400));
        due(" ".repeat(399) + "9", CANT_STAND, 399);
    }

    /** Blanks (32, 10) between them count for nothing. */
    private static void blanks() {
        good("stand 0 gap 1 unless 2;late 1;");
        good(" \n stand\n0\ngap\n1\nunless\n2\n;\n\n late\n1\n;\n");
        good("stand0gap1unless2;late1;");
        good(" ");
        due("  \n x", CANT_STAND, 4);
        due("\n\n", GOOD, -1);
        due("late 1; \n ", GOOD, -1);
        due("late 1 \n ", CANT_STAND, 9);
        due("late 1 2;", CANT_STAND, 7);
        due("la te 1;", CANT_STAND, 0);
    }

    /** Signs ; ( ) + - * / < =, words a .. z, NUMBERS; any other byte is no TOKEN. */
    private static void bytesWhereAPartMustStand() {
        for (int sign = 0; sign < 256; sign++) {
            String text = "stand 0 gap " + (char) sign + ";";
            if (sign >= '0' && sign <= '9') {
                good(text);
            } else if (sign >= 'a' && sign <= 'z') {
                due(text, NO_VALUE, 12);
            } else {
                boolean passed = sign == ' ' || sign == '\n' || sign == '(';
                due(text, CANT_STAND, passed ? 13 : 12);
            }
        }
    }

    private static void bytesBehindAPart() {
        for (int sign = 0; sign < 256; sign++) {
            String text = "stand 0 gap 1 " + (char) sign + " 1;";
            if ("+-*/<=".indexOf(sign) >= 0) {
                good(text);
            } else {
                boolean passed = sign == ' ' || sign == '\n' || sign == ';';
                due(text, CANT_STAND, passed ? 16 : 14);
            }
        }
    }

    /** Words (a .. z, the longest row). */
    private static void longestRow() {
        due("stand 0 gap gapin;", NO_VALUE, 12);
        due("stand 0 gap in in;", CANT_STAND, 15);
        due("stand 0 gap in1;", CANT_STAND, 14);
        due("stand 0 gap 1in;", CANT_STAND, 13);
        due("stand 0 gap notin;", NO_VALUE, 12);
        due("stand 0 gap 1 orin;", CANT_STAND, 14);
        due("stand 0 gap 1 unlessin;", CANT_STAND, 14);
        due("lates 1;", CANT_STAND, 0);
        due("lat 1;", CANT_STAND, 0);
        due("stand 0 gaps 1;", CANT_STAND, 8);
        good("stand 0 gap not(in)or(in)unless(in);");
        good("stand 0 gap 1or 1and 1;");
    }

    /** The text's length where it ends too soon. */
    private static void endsTooSoon() {
        String whole = "stand 0 gap (in+1)*2<3 or not aim=4 and 5 unless 6-7/8;late 9;";
        for (int n = 1; n < whole.length(); n++) {
            String part = whole.substring(0, n);
            boolean word = part.charAt(n - 1) >= 'a' && part.charAt(n - 1) <= 'z';
            boolean ends = part.endsWith(";");
            RollMill mill = mill(2);
            int fault = Check.rules(mill, part);
            Check.holds(part + ": good only at a clause's end", ends == (fault == GOOD));
            Check.holds(part + ": where it ends, but for half a word", ends || word || mill.fault() == n && fault == CANT_STAND);
        }
        for (String blank : new String[] {"", " ", "\n", "   \n"}) {
            due("stand 0 gap in" + blank, CANT_STAND, 14 + blank.length());
            due("stand 0 gap not" + blank, CANT_STAND, 15 + blank.length());
            due("stand" + blank, CANT_STAND, 5 + blank.length());
            due("tear" + blank, CANT_STAND, 4 + blank.length());
        }
    }

    /** NUMBERS (1 to 5 digits); a NUMBER of 6 digits or more is too much. */
    private static void digits() {
        String[] heads = {"late ", "drift ", "tear ", "loop ", "stand 0 gap ", "stand 0 gap 1+", "stand 0 gap 1 unless "};
        for (String head : heads) {
            good(head + "0;");
            good(head + "9;");
            good(head + "00009;");
            due(head + "000009;", TOO_MUCH, head.length());
            due(head + "100000;", TOO_MUCH, head.length());
            due(head + "99999999999999999999;", TOO_MUCH, head.length());
            due(head + "4294967296;", TOO_MUCH, head.length());
            due(head + "123456", TOO_MUCH, head.length());
        }
        for (int i = 1; i < heads.length; i++) {
            good(heads[i] + "99999;");
        }
        good("stand 00001 gap 1;");
        due("stand 000001 gap 1;", TOO_MUCH, 6);
        due("stand 4294967296 gap 1;", TOO_MUCH, 6);
        due("123456;", CANT_STAND, 0);
        due("stand 0 123456;", CANT_STAND, 8);
        due("stand 0 gap 1 123456;", CANT_STAND, 14);
    }

    /** The first TOKEN of the 13th CLAUSE. */
    private static void twelveClauses() {
        String clauses = "late 1;stand 0 gap 1;".repeat(6);
        good(clauses);
        good(clauses + " \n");
        for (String word : new String[] {"stand", "late", "drift", "tear", "loop"}) {
            due(clauses + word, TOO_MUCH, clauses.length());
            due(clauses + " " + word + " 1;", TOO_MUCH, clauses.length() + 1);
        }
        for (String token : new String[] {"gap", "unless", "not", "foo", "5", "123456", ";", "(", "-", "A"}) {
            due(clauses + "\n" + token, CANT_STAND, clauses.length() + 1);
        }
        good("tear 1;".repeat(12));
        due("tear 1;".repeat(13), TOO_MUCH, 84);
        due("tear 1;".repeat(11) + "tear 1", CANT_STAND, 83);
    }

    /** Of an EXPR within 6 others (a NUMBER, any word, a parenthesis). */
    private static void expressionWithinOthers() {
        for (String head : new String[] {"stand 0 gap ", "stand 0 gap 1 unless ", "stand 0 gap 1+2*", "stand 0 gap not 1<"}) {
            good(head + "(((((1)))));");
            String six = head + "((((((";
            due(head + "((((((1))))));", TOO_MUCH, six.length());
            due(head + "((((((((1))))))));", TOO_MUCH, six.length());
            for (String[] tokens : new String[][] {NUMBERS, VALUES, NO_VALUES, {"not", "(", "not not"}}) {
                for (String token : tokens) {
                    due(six + " " + token, TOO_MUCH, six.length() + 1);
                }
            }
            for (String token : SIGNS) {
                due(six + token, CANT_STAND, six.length());
            }
        }
        good("stand 0 gap (1)+(2)+(3)+(4)+(5)+(6)+(7)+(8);");
        good("stand 0 gap (((((1)))))+(((((2)))))<(((((3))))) unless (((((4)))));");
        due("stand 0 gap ((((1+(2)+(3+(4", TOO_MUCH, 26);
        good("stand 0 gap not(not(not(not(not 1))));");
    }

    /** The seventh 'not' side by side. */
    private static void notsSideBySide() {
        String six = "not not not not not not ";
        for (String head : new String[] {"stand 0 gap ", "stand 0 gap 1 unless ", "stand 0 gap 1 and ", "stand 0 gap 1 or ", "stand 0 gap ("}) {
            String end = head.endsWith("(") ? ");" : ";";
            good(head + six + "1" + end);
            due(head + six + "not 1" + end, TOO_MUCH, head.length() + six.length());
            due(head + six + "not not not 1" + end, TOO_MUCH, head.length() + six.length());
            due(head + six + "not", TOO_MUCH, head.length() + six.length());
            due(head + six + "foo", NO_VALUE, head.length() + six.length());
            due(head + six, CANT_STAND, head.length() + six.length());
        }
        good("stand 0 gap " + six + "1 and " + six + "2 or " + six + "3;");
        good("stand 0 gap " + six + "(" + six + "(" + six + "1));");
    }

    /** Behind 'late' a NUMBER above 9. */
    private static void lateAbove9() {
        for (int late = 0; late <= 9; late++) {
            good("late " + late + ";");
        }
        for (String late : new String[] {"10", "00010", "11", "99", "99999", "100000"}) {
            due("late " + late + ";", TOO_MUCH, 5);
            due("late " + late + " 5", TOO_MUCH, 5);
        }
        good("drift 10;tear 10;loop 10;");
    }

    /** Any word where a PART must stand that is no VALUE. */
    private static void wordsWhereAPartMustStand() {
        String[] heads = {"stand 0 gap ", "stand 0 gap 1 unless ", "stand 0 gap (", "stand 0 gap not ", "stand 0 gap 1 and ",
            "stand 0 gap 1 or ", "stand 0 gap 1<", "stand 0 gap 1=", "stand 0 gap 1+", "stand 0 gap 1-", "stand 0 gap 1*", "stand 0 gap 1/"};
        for (int i = 0; i < heads.length; i++) {
            String end = i == 2 ? ");" : ";";
            for (String word : VALUES) {
                good(heads[i] + word + end);
            }
            for (String word : NO_VALUES) {
                due(heads[i] + word + end, NO_VALUE, heads[i].length());
                due(heads[i] + word, NO_VALUE, heads[i].length());
            }
            for (String token : SIGNS) {
                due(heads[i] + token, CANT_STAND, heads[i].length());
            }
            if (i < 6) {
                good(heads[i] + "not 1" + end);
            } else {
                due(heads[i] + "not 1" + end, NO_VALUE, heads[i].length());
            }
        }
    }

    private static void wordsWhereNoPartMustStand() {
        for (String word : NO_VALUES) {
            due("stand " + word, CANT_STAND, 6);
            due("late " + word, CANT_STAND, 5);
            due("stand 0 " + word, CANT_STAND, 8);
            due("late 1 " + word, CANT_STAND, 7);
            boolean joins = word.equals("and") || word.equals("or");
            due("stand 0 gap 1 " + word, CANT_STAND, joins || word.equals("unless") ? 14 + word.length() : 14);
            due("stand 0 gap (1 " + word, CANT_STAND, joins ? 15 + word.length() : 15);
            due("stand 0 gap 1 unless 2 " + word, CANT_STAND, joins ? 23 + word.length() : 23);
        }
        for (String word : VALUES) {
            due(word, CANT_STAND, 0);
            due("stand " + word, CANT_STAND, 6);
            due("tear " + word, CANT_STAND, 5);
            due("stand 0 gap 1 " + word, CANT_STAND, 14);
        }
        due("stand 0 gap 1<2=3;", CANT_STAND, 15);
        due("stand 0 gap 1<2 or 2<3<4;", CANT_STAND, 22);
        good("stand 0 gap (1<2)<(3=4);");
    }

    /** Behind 'stand' the number of a STAND that there isn't. */
    private static void standsThatThereAre() {
        for (int stands = 0; stands <= 5; stands++) {
            for (int number : new int[] {0, 1, 2, 3, 4, 5, 6, 99_999}) {
                RollMill mill = mill(stands);
                int fault = Check.rules(mill, "stand " + number + " gap 1;");
                Check.same(stands + " stands, number " + number, fault, number < stands ? GOOD : NO_STAND);
                Check.same("its place", mill.fault(), number < stands ? -1 : 6);
            }
        }
        due("stand 2", NO_STAND, 6);
        due("stand 0 gap 1;stand 00002 gap 1;", NO_STAND, 20);
        due("stand -1 gap 1;", CANT_STAND, 6);
    }

    /** The first along the text. */
    private static void firstFaultCounts() {
        due("late 10;foo", TOO_MUCH, 5);
        due("foo late 10;", CANT_STAND, 0);
        due("stand 7 gap foo;", NO_STAND, 6);
        due("stand 0 gap foo;late 10;", NO_VALUE, 12);
        due("stand 0 gap 1 unless foo+123456;", NO_VALUE, 21);
        due("stand 0 gap 123456 unless foo;", TOO_MUCH, 12);
        due("late 5;late 6;late;late 10;", CANT_STAND, 18);
    }

    /** 0, or the FAULT (what was told ahead stays). */
    private static void whatWasToldStays() {
        String[] faults = {"x", "late 9;drift 9;tear 0;loop 0;stand 0 gap 9;late 10;", "stand 0 gap 9;stand 5 gap 9;", "stand 0 gap 9;stand 0 gap x;",
            "tear 0;".repeat(13), "late 9;stand 0 gap 9 unless 0"};
        for (String fault : faults) {
            RollMill mill = mill(1);
            mill.segment(1000, 1);
            mill.segment(1000, 1);
            Check.same("told", Check.rules(mill, "stand 0 gap 5000+tick;late 1;drift 40;"), GOOD);
            Check.holds("a fault", Check.rules(mill, fault) > GOOD);
            Check.same("done", mill.run(1), 0);
            Check.same("gap by what was told", mill.standOf(0, 0), 5001);
            Check.same("late as told", mill.gauge(0), 0);
            Check.same("drift as told", mill.gauge(1), 1004);
        }
    }

    /** Of others than 'stand' the last one in the text counts: late 0, drift 0, tear 99999, loop 99999 without. */
    private static void lastOneCounts() {
        RollMill mill = mill(1);
        mill.segment(1000, 1);
        mill.segment(1000, 1);
        Check.rules(mill, "late 9;drift 99999;late 1;drift 20;stand 0 gap 1500;stand 0 gap 1600;");
        mill.run(1);
        Check.same("the last late and drift", mill.gauge(0) * 10_000 + mill.gauge(1), 1002);
        Check.same("the first stand's clause", mill.standOf(0, 0), 1500);
        Check.rules(mill, "");
        mill.run(1);
        Check.same("late 0 without", mill.gauge(0), 1000);
        Check.same("drift 0 without", mill.gauge(1), 1000);
        Check.same("without a clause it stays", mill.standOf(0, 0), 1500);
    }

    /** Tear 99999, loop 99999 without, also behind rules with them. */
    private static void withoutTearAndLoop() {
        for (String ahead : new String[] {"", "tear 0;loop 0;", "tear 5;tear 9;loop 5;loop 9;", "loop 0;"}) {
            RollMill mill = new RollMill();
            mill.stand(999, 9_999_999, 0, 60_000, 60_000, 10, 100, 0);
            mill.stand(999, 9_999_999, 0, 60_000, 60_000, 20, 100, 0);
            mill.stand(999, 9_999_999, 0, 60_000, 60_000, 5, 100, 0);
            for (int i = 0; i < 9; i++) {
                mill.segment(1000, 5);
            }
            Check.same("told", Check.rules(mill, ahead), GOOD);
            mill.run(1);
            Check.same("told without", Check.rules(mill, "late 0;"), GOOD);
            Check.same("done behind " + ahead, mill.run(1), 0);
            Check.same("the last tear counts", Check.rules(mill, "tear 0;tear 99;loop 0;loop 999;"), GOOD);
            Check.same("done", mill.run(1), 0);
            Check.same("the last tear counts", Check.rules(mill, "tear 99;tear 0;loop 0;loop 999;"), GOOD);
            Check.same("torn", mill.run(1), 2);
            Check.same("the last loop counts", Check.rules(mill, "tear 99;loop 999;loop 0;"), GOOD);
            Check.same("looped", mill.run(1), 3);
        }
    }

    /** Each is by itself what it is without, whatever the others or rules told ahead are. */
    private static void eachByItself() {
        String all = "late 9;drift 99999;tear 0;loop 0;stand 0 gap 5;stand 1 gap 5;";
        String[] texts = {"", "late 1;", "drift 10;", "tear 9;", "loop 9;"};
        int[] ends = {0, 0, 0, 2, 0};
        int[] backEnds = {0, 0, 0, 0, 3};
        int[] gauges = {1000, 0, 1001, 0, 0};
        for (int i = 0; i < texts.length; i++) {
            for (int speed = 10; speed <= 30; speed += 20) {
                RollMill mill = new RollMill();
                mill.stand(999, 9_999_999, 0, 60_000, 60_000, 20, 100, 0);
                mill.stand(999, 9_999_999, 0, 60_000, 60_000, speed, 100, 0);
                mill.segment(1000, 5);
                mill.segment(1000, 5);
                for (int again = 0; again < 2; again++) {
                    Check.same("all", Check.rules(mill, all), GOOD);
                    Check.same("all", Check.rules(mill, all), GOOD);
                    Check.same(texts[i], Check.rules(mill, texts[i]), GOOD);
                    Check.same(texts[i] + " alone, speed " + speed, mill.run(1), speed == 30 ? ends[i] : backEnds[i]);
                    if (i < 3) {
                        Check.same(texts[i] + " alone: gauge", mill.gauge(1), gauges[i]);
                    }
                    Check.same("no clause: its gap stays", mill.standOf(0, 0) + mill.standOf(1, 0), 120_000);
                }
            }
        }
    }

    /** The gap that an expression wants, held within 0 and 60000. */
    private static int worth(String text) {
        RollMill mill = mill(1);
        mill.segment(5, 5);
        Check.same(text, Check.rules(mill, "stand 0 gap " + text + ";"), GOOD);
        mill.run(7);
        return mill.standOf(0, 0);
    }

    /** Ints that wrap, / cut down to 0, by 0 gives 0. */
    private static void wrapAround() {
        String least = "65536*32768";
        Check.same("below 0", worth(least + "<0"), 1);
        Check.same("least less 1 is most", worth("0<" + least + "-1"), 1);
        Check.same("most and 1 is least", worth(least + "-1+1=" + least), 1);
        Check.same("0 less the least is the least", worth("0-" + least + "=" + least), 1);
        Check.same("the least by -1 is the least", worth(least + "/(0-1)=" + least), 1);
        Check.same("the least times -1 is the least", worth(least + "*(0-1)=" + least), 1);
        Check.same("2 to the 32nd", worth("65536*65536+5"), 5);
        Check.same("99999 times itself", worth("99999*99999/30000"), 1_409_865_409 / 30_000);
        Check.same("thrice itself", worth("99999*99999*99999"), Math.max(0, Math.min(60_000, 99_999 * 99_999 * 99_999)));
        Check.same("the least by 0", worth(least + "/0+3"), 3);
        Check.same("0 by 0", worth("0/0"), 0);
        Check.same("by what is 0", worth("7/(tick*pull)+1"), 1);
        Check.same("-7 by 2", worth("(0-7)/2+10"), 7);
        Check.same("7 by -2", worth("7/(0-2)+10"), 7);
        Check.same("-7 by -2", worth("(0-7)/(0-2)"), 3);
        Check.same("-1 by 2", worth("(0-1)/2+1"), 1);
        Check.same("the most wanted", worth(least + "-1"), 60_000);
        Check.same("the least wanted", worth(least), 0);
    }

    /** Tests, not, and, or are 1 or 0 (what isn't 0 holds). */
    private static void whatHolds() {
        Check.same("not of -1", worth("not(0-1)"), 0);
        Check.same("not of the least", worth("not 65536*32768"), 0);
        Check.same("not of 2 to the 32nd", worth("not 65536*65536"), 1);
        Check.same("and of -1", worth("0-1 and 0-1"), 1);
        Check.same("or of -1", worth("0-1 or 0"), 1);
        Check.same("or of 5 and 7", worth("5 or 7"), 1);
        Check.same("and of 5 and 7", worth("5 and 7"), 1);
        for (int a = -2; a <= 2; a++) {
            for (int b = -2; b <= 2; b++) {
                String two = "(" + (a + 5) + "-5)";
                String other = "(" + (b + 5) + "-5)";
                Check.same(a + " and " + b, worth("7+(" + two + "and" + other + ")"), a != 0 && b != 0 ? 8 : 7);
                Check.same(a + " or " + b, worth("7+(" + two + "or" + other + ")"), a != 0 || b != 0 ? 8 : 7);
                Check.same(a + " < " + b, worth("7+(" + two + "<" + other + ")"), a < b ? 8 : 7);
                Check.same(a + " = " + b, worth("7+(" + two + "=" + other + ")"), a == b ? 8 : 7);
                Check.same("not " + a, worth("7+(not" + two + ")"), a == 0 ? 8 : 7);
            }
        }
        Check.same("one by itself stays", worth("((5))"), 5);
        Check.same("below, not as much", worth("(5<5)+(5<6)*10+(6<5)*100"), 10);
        Check.same("as much", worth("(5=5)+(5=6)*10+(6=5)*100"), 1);
        Check.same("an unless of -1 holds", worth("7 unless 0-1;stand 0 gap 8"), 8);
        Check.same("an unless of 0 does not", worth("7 unless 65536*65536;stand 0 gap 8"), 7);
        Check.same("each unless holds: it stays", worth("7 unless 1;stand 0 gap 8 unless 2"), 60_000);
    }
}
